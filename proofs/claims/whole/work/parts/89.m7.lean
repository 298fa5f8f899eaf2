/-! PURE: column, two -/
theorem p_runD {I : mh_I} {L : mh_L} {J : mh_I} {K M : Nat → Nat} {P N : Nat → Bool} {u : Nat} {e o : Nat → Nat} (h : R2 I L J K M P N u e o) (D : Nat → Bool) {p : Nat} (hp : p < 100) {R : Nat → Nat} (hr : isRun K (qkp K P) D p (rbf e o K M N) R) : (∃ I' L', X0_runFrom 10 1 (14 + 4 * u) (qS D) (0 : Int64) (nI p) I L = some (nI (gn R), I', L') ∧ ranX I' L' K R ∧ xx I I' ∧ lfr L L') ∧ ∃ J', X6_runs (qS D) (nI p) J = some J' ∧ ranM J' R ∧ jj J J' := by
  have hu : u < 6 := h.1.2.2.2.2.2.2.1
  obtain ⟨I', L', a1, a2, a3, a4, a5, a6⟩ := cx_run (H := fun _ => false) h.1 hp (isRun_0 hr)
  obtain ⟨J', b1, b2, b3, b4⟩ := cm_run h.2.1 hp hr
  exact ⟨⟨I', L', by rw [qS_0]; exact a1, ⟨a2, a3, a4⟩, xx_x hu a5, a6⟩, J', b1, ⟨b2, b3⟩, jj_j b4⟩
theorem p_col {p j : Nat} (hp : p < 6) (hj : j < 8) : qS (fun i => decide (i / 6 < j) && decide (i % 6 = p)) ||| qS (fun i => decide (i = 6 * j + p)) = qS (fun i => decide (i / 6 < j + 1) && decide (i % 6 = p)) := by
  rw [qS_or]
  refine qS_ext fun i _ => ?_
  by_cases e : i = 6 * j + p
  · rw [decide_eq_true e, decide_eq_true (show i / 6 < j + 1 by omega), decide_eq_true (show i % 6 = p by omega), Bool.or_true]; rfl
  · rw [decide_eq_false e, Bool.or_false]
    by_cases e2 : i / 6 < j
    · rw [decide_eq_true e2, decide_eq_true (show i / 6 < j + 1 by omega)]
    · rw [decide_eq_false e2, Bool.false_and]
      by_cases e3 : i / 6 < j + 1
      · rw [decide_eq_false (show ¬ i % 6 = p by omega), Bool.and_false]
      · rw [decide_eq_false e3, Bool.false_and]
theorem r_column : RS_column Rel := by
  intro T I L J a1 a2 a3 h
  obtain ⟨F, hF, eF⟩ := fuel_ex
  unfold X5_column X6_column
  rw [eF]
  rcases pa_rng a1 5 (n := 5) (by decide) with ⟨h5, h6, -⟩ | ⟨q, hq, rfl, h5, h6⟩
  · simp only [h5, h6, po_b, if_true]
    exact ⟨_, _, rfl, rfl, rfl, h⟩
  rcases pa_pull a2 with ⟨k5, k6⟩ | ⟨p, hp, rfl, k5, k6⟩
  · simp only [h5, h6, k5, k6, po_b, if_true, pz_10, if_false]
    exact ⟨_, _, rfl, rfl, rfl, h⟩
  rcases pa_rng a3 1 (n := 1) (by decide) with ⟨g5, g6, -⟩ | ⟨w, hw, rfl, g5, g6⟩
  · simp only [h5, h6, g5, g6, k5, k6, po_b, if_true, pz_10, if_false]
    exact ⟨_, _, rfl, rfl, rfl, h⟩
  obtain ⟨-, ⟨K, M, P, N, u, n, hc1, -⟩, -⟩ := id h
  obtain ⟨e, o, h2⟩ := R2_of hc1
  have hu : u < 6 := h2.1.2.2.2.2.2.2.1
  have hfull : qS (fun i => decide (i / 6 < 8) && decide (i % 6 = q)) = qS (fun i => decide (i % 6 = q)) := qS_ext fun i hi => by rw [decide_eq_true (show i / 6 < 8 by omega), Bool.true_and]
  have hzero : (0 : Int64) = qS (fun i => decide (i / 6 < 0) && decide (i % 6 = q)) := by
    rw [qS_0]
    refine qS_ext fun i _ => ?_
    rw [decide_eq_false (Nat.not_lt_zero _), Bool.false_and]
  have hX : ∀ k : Int64 → Option (Int32 × mh_I × mh_L), X5_column_l37 (nI q) k F (0 : Int64) (0 : Int32) = k (qS (fun i => decide (i % 6 = q))) := by
    intro k
    refine pl_up (fun f j s => X5_column_l37 (nI q) k f s j) 8 (fun r => r = k (qS (fun i => decide (i % 6 = q)))) (fun j s => s = qS (fun i => decide (i / 6 < j) && decide (i % 6 = q))) ?_ ?_ F 0 0 (by omega) (by omega) hzero
    · intro f s hs
      show X5_column_l37 (nI q) k (f + 1) s (nI 8) = _
      rw [X5_column_l37, if_pos (by decide), hs, hfull]
    · intro f j s hj hs
      left
      refine ⟨_, rfl, ?_⟩
      show X5_column_l37 (nI q) k (f + 1) s (nI j) = X5_column_l37 (nI q) k f (qS (fun i => decide (i / 6 < j + 1) && decide (i % 6 = q))) (nI (j + 1))
      rw [X5_column_l37]
      simp (disch := omega) only [pn_ll, if_neg, pn_ml, nI_add, pj_b, pn_al]
      rw [show j * 6 + q = 6 * j + q by omega, qS_bit (by omega), po_b, hs, p_col (by omega) hj]
  have hM : ∀ k : Int64 → Option (Int32 × mh_I), X6_column_l37 (nI q) k F (0 : Int64) (0 : Int32) = k (qS (fun i => decide (i % 6 = q))) := by
    intro k
    refine pl_up (fun f j s => X6_column_l37 (nI q) k f s j) 8 (fun r => r = k (qS (fun i => decide (i % 6 = q)))) (fun j s => s = qS (fun i => decide (i / 6 < j) && decide (i % 6 = q))) ?_ ?_ F 0 0 (by omega) (by omega) hzero
    · intro f s hs
      show X6_column_l37 (nI q) k (f + 1) s (nI 8) = _
      rw [X6_column_l37, if_pos (by decide), hs, hfull]
    · intro f j s hj hs
      left
      refine ⟨_, rfl, ?_⟩
      show X6_column_l37 (nI q) k (f + 1) s (nI j) = X6_column_l37 (nI q) k f (qS (fun i => decide (i / 6 < j + 1) && decide (i % 6 = q))) (nI (j + 1))
      rw [X6_column_l37]
      simp (disch := omega) only [pn_ll, if_neg, pn_mr, nI_add, pj_b, pn_al]
      rw [qS_sh (by omega), hs, p_col (by omega) hj]
  simp only [h5, h6, g5, g6, k5, k6, po_b, pz_10, if_false, hX, hM]
  obtain ⟨R, hr⟩ := isRun_ex K (qkp K P) (fun i => decide (i % 6 = q)) p (rbf e o K M N)
  have hl : ∀ i, i < 48 → R i ≤ 100 := fun i hi => by have := run_le hr i hi; omega
  obtain ⟨⟨I', L', d1, d2, d3, d4⟩, J', e1, e2, e3⟩ := p_runD h2 _ hp hr
  have h' := Rel_fr h d3 (ll_l d4) e3
  rw [X5_law_ok h2.2.2 hu, po_b, d1, po_b, e1, po_b]
  have hcnt : ∀ k : Int32 → Option (Int32 × mh_I), X6_column_l77 (nI q) J' k F (0 : Int32) (0 : Int32) = k (nI (qC (fun i => decide (0 < R i) && !(decide (i % 6 = q))) 48)) := by
    intro k
    refine pl_up (fun f j s => X6_column_l77 (nI q) J' k f s j) 48 (fun r => r = k (nI (qC (fun i => decide (0 < R i) && !(decide (i % 6 = q))) 48))) (fun j s => s = nI (qC (fun i => decide (0 < R i) && !(decide (i % 6 = q))) j)) ?_ ?_ F 0 0 (by omega) (by omega) rfl
    · intro f s hs
      show X6_column_l77 (nI q) J' k (f + 1) s (nI 48) = _
      rw [X6_column_l77, if_pos (by decide), hs]
    · intro f j s hj hs
      left
      refine ⟨_, rfl, ?_⟩
      have hle := hl j hj
      show X6_column_l77 (nI q) J' k (f + 1) s (nI j) = X6_column_l77 (nI q) J' k f (nI (qC (fun i => decide (0 < R i) && !(decide (i % 6 = q))) (j + 1))) (nI (j + 1))
      rw [X6_column_l77]
      simp (disch := omega) only [pn_ll, if_neg, px_ix, pj_j, pj_b, pn_al, pn_rm, pn_eq, e2.1, dIm]
      rw [hs, qC]
      by_cases c1 : j % 6 = q
      · simp only [c1, if_true, decide_true, Bool.not_true, Bool.and_false, Bool.false_eq_true, if_false, pn_al]
      · by_cases c2 : R j = 0
        · simp only [c1, c2, if_true, if_false, Nat.lt_irrefl, decide_false, Bool.false_and, Bool.false_eq_true, pn_al]
        · have : 0 < R j := by omega
          simp only [c1, c2, this, if_true, if_false, decide_false, decide_true, Bool.not_false, Bool.and_self, pn_al]
  rw [hcnt]
  dsimp only
  rw [d2.2.1, qS_andn]
  simp only [pj_j, qS_bitCount]
  rcases (show w = 0 ∨ w = 1 by omega) with rfl | rfl
  · rw [if_pos (by decide), if_pos (by decide), po_b]
    exact ⟨_, _, rfl, rfl, e2.2.symm, h'⟩
  · rw [if_neg (by decide), if_neg (by decide), po_b]
    exact ⟨_, _, rfl, rfl, rfl, h'⟩
/-! the two dropped: two others never meet -/
theorem rA_loc {K R R' : Nat → Nat} {c q : Nat} (hc : c < 48) (h : ∀ i, c < i → i < 48 → i % 6 / 2 = q → R i = R' i) (hq : c % 6 / 2 = q) : rA K R c = rA K R' c := by
  unfold rA
  by_cases h42 : c < 42
  · rw [if_pos h42, if_pos h42, h (c + 6) (by omega) (by omega) (by omega), h (pnb c + 6) (by unfold pnb; omega) (by unfold pnb; omega) (by unfold pnb; omega)]
  · rw [if_neg h42, if_neg h42]
theorem two_loc {K : Nat → Nat} {kp D D' : Nat → Bool} {p : Nat} {rb : Nat → Nat → Nat} {R R' : Nat → Nat} (h : isRun K kp D p rb R) (h' : isRun K kp D' p rb R') {q : Nat} (hD : ∀ i, i < 48 → i % 6 / 2 = q → D i = D' i) : ∀ i, i < 48 → i % 6 / 2 = q → R i = R' i := by
  have key : ∀ n i, i < 48 → 48 ≤ n + i → i % 6 / 2 = q → R i = R' i := by
    intro n
    induction n with
    | zero => intro i h1 h2; omega
    | succ n ih =>
      intro i h1 h2 h3
      rw [h i h1, h' i h1, rSt, rSt, hD i h1 h3, rA_loc h1 (fun x hx hx2 hx3 => ih x hx2 (by omega) hx3) h3]
  exact fun i hi => key 48 i hi (by omega)
theorem run_none {K : Nat → Nat} {kp : Nat → Bool} {p : Nat} {rb : Nat → Nat → Nat} : isRun K kp (fun _ => false) p rb (fun _ => 0) := by
  intro c hc
  have h0 : rA K (fun _ => 0) c = 0 := by
    unfold rA
    (repeat' split) <;> simp
  rw [rSt, h0]
  (repeat' split) <;> first | rfl | omega | (rename_i h; cases h)
theorem two_un {K : Nat → Nat} {kp : Nat → Bool} {p : Nat} {rb : Nat → Nat → Nat} {R Ra Rb : Nat → Nat} {a b : Nat} (h : isRun K kp (fun i => decide (i = a) || decide (i = b)) p rb R) (ha : isRun K kp (fun i => decide (i = a)) p rb Ra) (hb : isRun K kp (fun i => decide (i = b)) p rb Rb) (hab : ¬ a % 6 / 2 = b % 6 / 2) : ∀ i, i < 48 → (decide (0 < R i) = (decide (0 < Ra i) || decide (0 < Rb i))) := by
  intro i hi
  by_cases h1 : i % 6 / 2 = a % 6 / 2
  · rw [two_loc h ha (q := a % 6 / 2) (fun x _ hx => by
      have : ¬ x = b := by intro e; subst e; exact hab hx.symm
      rw [decide_eq_false this, Bool.or_false]) i hi h1]
    rw [two_loc hb run_none (q := a % 6 / 2) (fun x _ hx => by
      have : ¬ x = b := by intro e; subst e; exact hab hx.symm
      exact decide_eq_false this) i hi h1]
    simp
  · rw [two_loc ha run_none (q := i % 6 / 2) (fun x _ hx => by
      have : ¬ x = a := by intro e; subst e; exact h1 hx.symm
      exact decide_eq_false this) i hi rfl]
    rw [two_loc h hb (q := i % 6 / 2) (fun x _ hx => by
      have : ¬ x = a := by intro e; subst e; exact h1 hx.symm
      rw [decide_eq_false this, Bool.false_or]) i hi rfl]
    simp
