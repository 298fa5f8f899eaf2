/-! PURE: told, pin, block, loose, wrong, seen -/
theorem r_told : RS_told Rel := by
  intro T I L J a1 a2 h
  obtain ⟨-, ⟨K, M, P, N, u, n, hc1, -⟩, -⟩ := id h
  obtain ⟨⟨h1, h2, h3, h4, h5, h6, h7⟩, ⟨g1, g2, g3, g4, g5⟩, k1, k2, k3, k4, k5⟩ := hc1
  unfold X5_told X6_told
  rcases pa_loop a1 with ⟨e5, e6⟩ | ⟨c, hc, rfl, e5, e6⟩
  · simp only [e5, e6, po_b, if_true]
    exact ⟨_, _, rfl, rfl, rfl, h⟩
  have hbit : ∀ Q : Nat → Bool, (if pI (Q c = true) = 0 then some (0 : Int32) else some (1 : Int32)) = some (nI (qb Q c)) := by
    intro Q
    simp only [qI0]
    unfold qb
    cases Q c <;> rfl
  simp only [e5, e6, po_b, pz_10, if_false, px_ix hc (show 48 < 2 ^ 31 by decide), h1 c hc, g1 c hc, h3 c hc, g2 c hc, g3 c hc, g4 c hc, h5, h6, qS_has _ hc, hbit, cx_places (o := 1) h1 h2 hc, cm_through g1 h2 hc, qface_5 _ (h2 c hc), qface_6 _ (h2 c hc)]
  by_cases e0 : a2 = 0
  · simp only [e0, if_true]; exact ⟨_, _, rfl, rfl, rfl, h⟩
  · simp only [e0, if_false]
    by_cases e1 : a2 = 1
    · simp only [e1, if_true]; exact ⟨_, _, rfl, rfl, rfl, h⟩
    · simp only [e1, if_false]
      by_cases e2 : a2 = 2
      · simp only [e2, if_true]; exact ⟨_, _, rfl, rfl, rfl, h⟩
      · simp only [e2, if_false]
        by_cases e3 : a2 = 3
        · simp only [e3, if_true]; exact ⟨_, _, rfl, rfl, rfl, h⟩
        · simp only [e3, if_false]
          by_cases e4 : a2 = 4
          · simp only [e4, if_true]; exact ⟨_, _, rfl, rfl, rfl, h⟩
          · simp only [e4, if_false]
            by_cases e5 : a2 = 5
            · simp only [e5, if_true]; exact ⟨_, _, rfl, rfl, rfl, h⟩
            · simp only [e5, if_false]; exact ⟨_, _, rfl, rfl, rfl, h⟩
theorem r_pin : RS_pin Rel := by
  intro T I L J a1 a2 h
  obtain ⟨-, ⟨K, M, P, N, u, n, hc1, -⟩, -⟩ := id h
  obtain ⟨⟨h1, h2, h3, h4, h5, h6, h7⟩, ⟨g1, g2, g3, g4, g5⟩, k1, k2, k3, k4, k5⟩ := hc1
  unfold X5_pin X6_pin
  rcases pa_loop a1 with ⟨e5, e6⟩ | ⟨c, hc, rfl, e5, e6⟩
  · simp only [e5, e6, po_b, if_true]
    exact ⟨_, _, rfl, rfl, rfl, h⟩
  rcases pa_rng a2 1 (n := 1) (by decide) with ⟨f5, f6, -⟩ | ⟨w, hw, rfl, f5, f6⟩
  · simp only [e5, e6, f5, f6, po_b, if_true, pz_10, if_false]
    exact ⟨_, _, rfl, rfl, rfl, h⟩
  simp only [e5, e6, f5, f6, po_b, pz_10, if_false, px_ix hc (show 48 < 2 ^ 31 by decide), h5, qS_has _ hc, qI0, pj_j, pj_b, g3 c hc, qS_bit hc, qS_or, qS_andn]
  have hrel : ∀ P' : Nat → Bool, (∀ i, i < 48 → P' i = if i = c then decide (w = 1) else P i) → Rel T I (mh_ul L 1 2 (qS P')) (mh_u J 3 c (nI w)) := by
    intro P' hP'
    refine Rel_core (K' := K) (M' := M) (P' := P') (N' := N) (u' := u) h (fun _ _ _ => rfl) (fun b k hb => pul_a hb) (fun b k hb => pu_a (by omega)) (fun n' hn' he => by
      have := (nI_eq (by omega) (by omega)).mp (k3.symm.trans he)
      omega) ⟨h1, h2, h3, h4, pul_s _ _ _ _, by rw [pul_k (by decide)]; exact h6, h7⟩ ⟨fun i hi => by rw [pu_a (by decide)]; exact g1 i hi, fun i hi => by rw [pu_a (by decide)]; exact g2 i hi, fun i hi => ?_, fun i hi => by rw [pu_a (by decide)]; exact g4 i hi, by rw [pu_a (by decide)]; exact g5⟩
    by_cases e : i = c
    · subst e
      rw [pu_s]
      unfold qb
      rw [hP' i hi, if_pos rfl]
      rcases (show w = 0 ∨ w = 1 by omega) with rfl | rfl <;> rfl
    · rw [pu_k e, g3 i hi]
      exact congrArg nI (qb_eq (by rw [hP' i hi, if_neg e]))
  have hval : (if P c = false then (0 : Int32) else 1) = nI (qb P c) := by
    unfold qb
    cases P c <;> rfl
  rcases (show w = 0 ∨ w = 1 by omega) with rfl | rfl
  · simp only [show (nI 0 = (1 : Int32)) = False by decide, if_false]
    cases hp : P c
    · simp only [if_true]
      refine ⟨_, _, rfl, rfl, ?_, hrel _ (fun i hi => ?_)⟩
      · unfold qb; rw [hp]; rfl
      · by_cases e : i = c
        · subst e; rw [decide_eq_true rfl, if_pos rfl]; simp
        · rw [decide_eq_false e, if_neg e]; simp
    · simp only [Bool.true_eq_false, if_false]
      refine ⟨_, _, rfl, rfl, ?_, hrel _ (fun i hi => ?_)⟩
      · unfold qb; rw [hp]; rfl
      · by_cases e : i = c
        · subst e; rw [decide_eq_true rfl, if_pos rfl]; simp
        · rw [decide_eq_false e, if_neg e]; simp
  · simp only [show (nI 1 = (1 : Int32)) = True from eq_true rfl, if_true]
    cases hp : P c
    · simp only [if_true]
      refine ⟨_, _, rfl, rfl, ?_, hrel _ (fun i hi => ?_)⟩
      · unfold qb; rw [hp]; rfl
      · by_cases e : i = c
        · subst e; rw [decide_eq_true rfl, if_pos rfl]; simp
        · rw [decide_eq_false e, if_neg e]; simp
    · simp only [Bool.true_eq_false, if_false]
      refine ⟨_, _, rfl, rfl, ?_, hrel _ (fun i hi => ?_)⟩
      · unfold qb; rw [hp]; rfl
      · by_cases e : i = c
        · subst e; rw [decide_eq_true rfl, if_pos rfl]; simp
        · rw [decide_eq_false e, if_neg e]; simp
theorem r_block : RS_block Rel := by
  intro T I L J h
  obtain ⟨F, hF, eF⟩ := fuel_ex
  obtain ⟨-, ⟨K, M, P, N, u, n, hc1, hc2⟩, -⟩ := id h
  obtain ⟨⟨h1, h2, h3, h4, h5, h6, h7⟩, ⟨g1, g2, g3, g4, g5⟩, k1, k2, k3, k4, k5⟩ := id hc1
  unfold X5_block X6_block
  rw [eF, h6, qS_bitCount, po_b, (p_many g3 g4).2, po_b]
  have hl : ∃ y, X6_block_l8 (nI (qC N 48)) F (0 : Int32) J = some (nI (qC N 48), y) ∧ (∀ b k, b ≠ 4 → y b k = J b k) ∧ (∀ c, c < 48 → y 4 c = nI (qb (fun _ => false) c)) := by
    refine pl_up (fun f j s => X6_block_l8 (nI (qC N 48)) f j s) 48 (fun r => ∃ y, r = some (nI (qC N 48), y) ∧ (∀ b k, b ≠ 4 → y b k = J b k) ∧ (∀ c, c < 48 → y 4 c = nI (qb (fun _ => false) c))) (fun j y => (∀ b k, b ≠ 4 → y b k = J b k) ∧ (∀ c, c < j → y 4 c = nI (qb (fun _ => false) c))) ?_ ?_ F 0 J (by omega) (by omega) ⟨fun _ _ _ => rfl, fun c hc => absurd hc (Nat.not_lt_zero c)⟩
    · rintro f y ⟨y1, y2⟩
      refine ⟨y, ?_, y1, y2⟩
      show X6_block_l8 (nI (qC N 48)) (f + 1) (nI 48) y = _
      rw [X6_block_l8, if_pos (by decide)]
    · rintro f j y hj ⟨y1, y2⟩
      left
      refine ⟨mh_u y 4 j 0, ⟨fun b k hb => by rw [pu_a hb, y1 b k hb], fun c hc => ?_⟩, ?_⟩
      · by_cases ec : c = j
        · subst ec; rw [pu_s]; rfl
        · rw [pu_k ec, y2 c (by omega)]
      · show X6_block_l8 (nI (qC N 48)) (f + 1) (nI j) y = _
        rw [X6_block_l8]
        simp (disch := omega) only [pn_ll, if_neg, px_ix, pj_b, pn_al]
  obtain ⟨y, y1, y2, y3⟩ := hl
  rw [y1, qS_0]
  exact ⟨_, _, rfl, rfl, rfl, Rel_mend h hc1 hc2 y2 y3⟩
def ov0 (K : Nat → Nat) (c : Nat) : Bool := !(qO (K (c + 6)) || qX (K (pnb c + 6)))
theorem ov0_ok {K : Nat → Nat} {c : Nat} (h : c < 42) : (∀ i, i < 48 → qgt K i c = false) = (ov0 K c = true) := by
  refine propext ⟨fun hh => ?_, fun hh i hi => ?_⟩
  · have a1 := hh (c + 6) (by omega)
    have a2 := hh (pnb c + 6) (by unfold pnb; omega)
    unfold qgt at a1 a2
    rw [decide_eq_true (show c + 6 < 48 by omega), decide_eq_true (show c + 6 = c + 6 from rfl)] at a1
    rw [decide_eq_true (show pnb c + 6 < 48 by unfold pnb; omega), decide_eq_true (show pnb c + 6 = pnb c + 6 from rfl)] at a2
    unfold ov0
    simp at a1 a2 ⊢
    exact ⟨a1.1, a2.2⟩
  · unfold ov0 at hh
    simp at hh
    unfold qgt
    by_cases e1 : i = c + 6
    · subst e1
      by_cases e2 : c + 6 = pnb c + 6
      · rw [← e2] at hh; rw [hh.1]; simp [hh.2]
      · rw [hh.1]; simp [e2]
        intro _ e3
        unfold pnb at e3
        omega
    · by_cases e2 : i = pnb c + 6
      · subst e2; rw [hh.2]; simp [e1]
        intro _ e3
        unfold pnb at e3
        omega
      · simp [e1, e2]
def lz (K : Nat → Nat) (P : Nat → Bool) (c : Nat) : Bool := decide (c < 42) && (ov0 K c && !(qkp K P c))
theorem cx_loose {I : mh_I} {L : mh_L} {K : Nat → Nat} {P : Nat → Bool} (h1 : cK 2 I K) (h2 : bK K 6) (h5 : L 1 2 = qS P) : X5_loose I L = some (qS (lz K P)) := by
  obtain ⟨F, hF, eF⟩ := fuel_ex
  unfold X5_loose
  rw [eF]
  refine pl_up (fun f j s => X5_loose_l4 I L f s j) 42 (fun r => r = some (qS (lz K P))) (fun j s => s = qS (fun i => decide (i < j) && lz K P i)) ?_ ?_ F 0 0 (by omega) (by omega) qS_sI
  · intro f s hs
    show X5_loose_l4 I L (f + 1) s (nI 42) = _
    rw [X5_loose_l4, if_pos (by decide), hs]
    refine congrArg some (qS_ext fun i hi => ?_)
    by_cases e : i < 42
    · rw [decide_eq_true e, Bool.true_and]
    · unfold lz
      rw [decide_eq_false e]; rfl
  · intro f j s hj hs
    left
    refine ⟨_, rfl, ?_⟩
    show X5_loose_l4 I L (f + 1) s (nI j) = X5_loose_l4 I L f (qS (fun i => decide (i < j + 1) && lz K P i)) (nI (j + 1))
    rw [X5_loose_l4, cx_over (o := 1) h1 h2 (show j < 48 by omega), cx_keeps (o := 1) h1 h2 h5 (show j < 48 by omega), qS_bit (show j < 48 by omega)]
    simp (disch := omega) only [pn_ll, if_neg, po_b, pj_j, pj_b, pn_al, qS_z, ov0_ok, qI0]
    rw [hs]
    have hz : lz K P j = (ov0 K j && !(qkp K P j)) := by
      unfold lz
      rw [decide_eq_true hj]; rfl
    cases h3 : ov0 K j
    · rw [if_neg (by decide), qS_s0 (by rw [hz, h3]; rfl)]
    · rw [if_pos rfl]
      cases h4 : qkp K P j
      · rw [if_pos rfl, qS_s1 (by rw [hz, h3, h4]; rfl)]
      · rw [if_neg (by decide), qS_s0 (by rw [hz, h3, h4]; rfl)]
theorem cm_isLoose {J : mh_I} {K : Nat → Nat} {P : Nat → Bool} (g1 : cK 1 J K) (h2 : bK K 6) (g3 : ∀ c, c < 48 → J 3 c = nI (qb P c)) {c : Nat} (hc : c < 48) : X6_isLoose (nI c) J = some (pI (lz K P c = true)) := by
  unfold X6_isLoose
  simp (disch := omega) only [pn_ll]
  by_cases h42 : 42 ≤ c
  · rw [if_pos h42]
    unfold lz
    rw [decide_eq_false (by omega)]; rfl
  · rw [if_neg h42, cm_uppers g1 h2 hc, po_b, cm_keeps g1 h2 (g3 c hc) hc, po_b]
    simp only [qS_z, qI0, ov0_ok (show c < 42 by omega)]
    unfold lz
    rw [decide_eq_true (show c < 42 by omega)]
    cases ov0 K c <;> cases qkp K P c <;> rfl
theorem r_loose : RS_loose Rel := by
  intro T I L J h
  obtain ⟨F, hF, eF⟩ := fuel_ex
  obtain ⟨-, ⟨K, M, P, N, u, n, hc1, -⟩, -⟩ := id h
  obtain ⟨⟨h1, h2, h3, h4, h5, h6, h7⟩, ⟨g1, g2, g3, g4, g5⟩, k1, k2, k3, k4, k5⟩ := hc1
  have h6' : X6_loose J = some (qS (lz K P)) := by
    unfold X6_loose
    rw [eF]
    refine pl_up (fun f j s => X6_loose_l4 J f s j) 48 (fun r => r = some (qS (lz K P))) (fun j s => s = qS (fun i => decide (i < j) && lz K P i)) ?_ ?_ F 0 0 (by omega) (by omega) qS_sI
    · intro f s hs
      show X6_loose_l4 J (f + 1) s (nI 48) = _
      rw [X6_loose_l4, if_pos (by decide), hs, qS_sE]
    · intro f j s hj hs
      left
      refine ⟨_, rfl, ?_⟩
      show X6_loose_l4 J (f + 1) s (nI j) = X6_loose_l4 J f (qS (fun i => decide (i < j + 1) && lz K P i)) (nI (j + 1))
      rw [X6_loose_l4, cm_isLoose g1 h2 g3 hj]
      simp (disch := omega) only [pn_ll, if_neg, po_b, pj_j, pj_b, pn_al, qI0, qS_sh]
      rw [hs]
      cases hz : lz K P j
      · rw [if_pos rfl, Int64.or_zero, qS_s0 hz]
      · rw [if_neg (by decide), qS_s1 hz]
  exact ⟨_, _, cx_loose h1 h2 h5, h6', rfl, h⟩
theorem r_wrong : RS_wrong Rel := by
  intro T I L J h
  obtain ⟨F, hF, eF⟩ := fuel_ex
  obtain ⟨-, ⟨K, M, P, N, u, n, hc1, -⟩, -⟩ := id h
  obtain ⟨⟨h1, h2, h3, h4, h5, h6, h7⟩, ⟨g1, g2, g3, g4, g5⟩, k1, k2, k3, k4, k5⟩ := hc1
  unfold X5_wrong X6_wrong
  rw [eF, cx_loose h1 h2 h5, po_b]
  refine pl_2 (fun f j (x : Int32) => X5_wrong_l10 (qS (lz K P)) f x (nI j)) (fun f j (x : Int32) => X6_wrong_l4 J f x (nI j)) 48 (fun a b => ∃ q r, a = some q ∧ b = some r ∧ q = r ∧ Rel T I L J) (fun j x y => x = y) ?_ ?_ F 0 0 0 (by omega) (by omega) rfl
  · rintro f x y rfl
    rw [X5_wrong_l10, X6_wrong_l4, if_pos (show (48 : Int32) ≤ nI 48 by decide), if_pos (show (48 : Int32) ≤ nI 48 by decide)]
    exact ⟨_, _, rfl, rfl, rfl, h⟩
  · rintro f j x y hj rfl
    left
    rw [X5_wrong_l10, X6_wrong_l4, qS_has _ hj, cm_isLoose g1 h2 g3 hj]
    simp (disch := omega) only [pn_ll, if_neg, po_b, pj_j, pj_b, pn_al, qI0]
    cases lz K P j
    · refine ⟨x, x, rfl, by rw [if_pos rfl], by rw [if_pos rfl, Int32.or_zero]⟩
    · refine ⟨x ||| ((1 : Int32) <<< ((nI j / (6 : Int32)) &&& 31)), x ||| ((1 : Int32) <<< ((nI j / (6 : Int32)) &&& 31)), rfl, by rw [if_neg (by decide)], by rw [if_neg (by decide)]⟩
def fcn (K : Nat → Nat) (c : Nat) : Nat := if K c = 1 then 1 else 0
def snn (K : Nat → Nat) (N : Nat → Bool) (c : Nat) : Bool := N c && ((decide (c % 6 = 0) || !decide (fcn K (c - 1) = fcn K c)) && (decide (c % 6 = 5) || !decide (fcn K (c + 1) = fcn K c)))
theorem fcn_lt (K : Nat → Nat) (c : Nat) : fcn K c < 2 := by unfold fcn; split <;> decide
theorem r_seen : RS_seen Rel := by
  intro T I L J h
  obtain ⟨F, hF, eF⟩ := fuel_ex
  obtain ⟨-, ⟨K, M, P, N, u, n, hc1, -⟩, -⟩ := id h
  obtain ⟨⟨h1, h2, h3, h4, h5, h6, h7⟩, ⟨g1, g2, g3, g4, g5⟩, k1, k2, k3, k4, k5⟩ := hc1
  have f5 : ∀ c, c < 48 → X5_faceOf (I 2 c) = some (nI (fcn K c)) := fun c hc => by rw [h1 c hc, qface_5 _ (h2 c hc)]; rfl
  have f6 : ∀ c, c < 48 → X6_faceOf (J 1 c) = some (nI (fcn K c)) := fun c hc => by rw [g1 c hc, qface_6 _ (h2 c hc)]; rfl
  have hU : ∀ j, j < 48 → X5_isUnlikeThoseBeside (nI j) I = some (pI (((decide (j % 6 = 0) || !decide (fcn K (j - 1) = fcn K j)) && (decide (j % 6 = 5) || !decide (fcn K (j + 1) = fcn K j))) = true)) := by
    intro j hj
    have q0 := fcn_lt K j
    have q1 := fcn_lt K (j - 1)
    have q2 := fcn_lt K (j + 1)
    unfold X5_isUnlikeThoseBeside
    rw [px_ix hj (by decide), f5 j hj, po_b]
    simp (disch := omega) only [pn_rm, pj_b, pj_j, pn_lr, pn_er, pn_al]
    by_cases c1 : j % 6 ≤ 0
    · rw [if_pos c1, decide_eq_true (show j % 6 = 0 by omega)]
      rw [if_neg (show ¬ j % 6 = 5 by omega), px_ix (show j + 1 < 48 by omega) (by decide), f5 (j + 1) (by omega), po_b, decide_eq_false (show ¬ j % 6 = 5 by omega)]
      simp (disch := omega) only [pn_eq]
      by_cases c2 : fcn K (j + 1) = fcn K j
      · rw [if_pos c2, decide_eq_true c2]; rfl
      · rw [if_neg c2, decide_eq_false c2]; rfl
    · rw [if_neg c1, decide_eq_false (show ¬ j % 6 = 0 by omega)]
      simp (disch := omega) only [pn_sl]
      rw [px_ix (show j - 1 < 48 by omega) (by decide), f5 (j - 1) (by omega), po_b]
      simp (disch := omega) only [pn_eq]
      by_cases c3 : fcn K (j - 1) = fcn K j
      · rw [if_pos c3, decide_eq_true c3]; rfl
      · rw [if_neg c3, decide_eq_false c3]
        by_cases c5 : j % 6 = 5
        · rw [if_pos c5, decide_eq_true c5]; rfl
        · rw [if_neg c5, decide_eq_false c5, px_ix (show j + 1 < 48 by omega) (by decide), f5 (j + 1) (by omega), po_b]
          simp (disch := omega) only [pn_eq]
          by_cases c2 : fcn K (j + 1) = fcn K j
          · rw [if_pos c2, decide_eq_true c2]; rfl
          · rw [if_neg c2, decide_eq_false c2]; rfl
  have hX : X5_seen I L = some (qS (snn K N)) := by
    unfold X5_seen
    rw [eF]
    refine pl_up (fun f j s => X5_seen_l4 I L f s j) 48 (fun r => r = some (qS (snn K N))) (fun j s => s = qS (fun i => decide (i < j) && snn K N i)) ?_ ?_ F 0 0 (by omega) (by omega) qS_sI
    · intro f s hs
      show X5_seen_l4 I L (f + 1) s (nI 48) = _
      rw [X5_seen_l4, if_pos (by decide), hs, qS_sE]
    · intro f j s hj hs
      left
      refine ⟨_, rfl, ?_⟩
      show X5_seen_l4 I L (f + 1) s (nI j) = X5_seen_l4 I L f (qS (fun i => decide (i < j + 1) && snn K N i)) (nI (j + 1))
      rw [X5_seen_l4, h6, qS_has _ hj, hU j hj, qS_bit hj]
      simp (disch := omega) only [pn_ll, if_neg, po_b, pj_j, pj_b, pn_al, qI0]
      rw [hs]
      cases hn : N j
      · rw [if_pos rfl, qS_s0 (by unfold snn; rw [hn]; rfl)]
      · rw [if_neg (by decide)]
        cases hq : ((decide (j % 6 = 0) || !decide (fcn K (j - 1) = fcn K j)) && (decide (j % 6 = 5) || !decide (fcn K (j + 1) = fcn K j)))
        · rw [if_pos rfl, qS_s0 (by unfold snn; rw [hn, hq]; rfl)]
        · rw [if_neg (by decide), qS_s1 (by unfold snn; rw [hn, hq]; rfl)]
  have hM : X6_seen J = some (qS (snn K N)) := by
    unfold X6_seen
    rw [eF]
    refine pl_up (fun f j s => X6_seen_l4 J f s j) 48 (fun r => r = some (qS (snn K N))) (fun j s => s = qS (fun i => decide (i < j) && snn K N i)) ?_ ?_ F 0 0 (by omega) (by omega) qS_sI
    · intro f s hs
      show X6_seen_l4 J (f + 1) s (nI 48) = _
      rw [X6_seen_l4, if_pos (by decide), hs, qS_sE]
    · intro f j s hj hs
      left
      refine ⟨_, rfl, ?_⟩
      show X6_seen_l4 J (f + 1) s (nI j) = X6_seen_l4 J f (qS (fun i => decide (i < j + 1) && snn K N i)) (nI (j + 1))
      have q0 := fcn_lt K j
      have q1 := fcn_lt K (j - 1)
      have q2 := fcn_lt K (j + 1)
      have qn : (nI (qb N j) = (1 : Int32)) = (N j = true) := by
        unfold qb
        cases N j <;> decide
      have hend : ∀ b1 b2 : Bool, (((if b1 = true then (1 : Int32) else 0) = 0) = (b1 = false)) ∧ (((if b2 = true then (1 : Int32) else 0) = 0) = (b2 = false)) := by decide
      -- the two tests, each as a bit
      have hone : ∀ (B : Int32 → Option Int64), mh_j B (fun J2 => mh_j (J2 (1 : Int32)) (fun J3 => if mh_rem (nI j) (6 : Int32) = 0 then J3 else mh_ix (nI j - (1 : Int32)) 48 (fun k4 => (X6_faceOf (J 1 k4)).bind (fun q6 => mh_ix (nI j) 48 (fun k7 => (X6_faceOf (J 1 k7)).bind (fun q9 => if q6 = q9 then J2 (0 : Int32) else J3)))))) = B (if (decide (j % 6 = 0) || !decide (fcn K (j - 1) = fcn K j)) = true then 1 else 0) := by
        intro B
        simp (disch := omega) only [pj_j, pn_rm, pn_er]
        by_cases c1 : j % 6 = 0
        · rw [if_pos c1, decide_eq_true c1]; rfl
        · rw [if_neg c1, decide_eq_false c1]
          simp (disch := omega) only [pn_sl]
          rw [px_ix (show j - 1 < 48 by omega) (by decide), f6 (j - 1) (by omega), po_b, px_ix hj (by decide), f6 j hj, po_b]
          simp (disch := omega) only [pn_eq]
          by_cases c2 : fcn K (j - 1) = fcn K j
          · rw [if_pos c2, decide_eq_true c2]; rfl
          · rw [if_neg c2, decide_eq_false c2]; rfl
      have htwo : ∀ (B : Int32 → Option Int64), mh_j B (fun J13 => mh_j (J13 (1 : Int32)) (fun J14 => if mh_rem (nI j) (6 : Int32) = (5 : Int32) then J14 else mh_ix (nI j + (1 : Int32)) 48 (fun k15 => (X6_faceOf (J 1 k15)).bind (fun q17 => mh_ix (nI j) 48 (fun k18 => (X6_faceOf (J 1 k18)).bind (fun q20 => if q17 = q20 then J13 (0 : Int32) else J14)))))) = B (if (decide (j % 6 = 5) || !decide (fcn K (j + 1) = fcn K j)) = true then 1 else 0) := by
        intro B
        simp (disch := omega) only [pj_j, pn_rm, pn_er, pn_al]
        by_cases c1 : j % 6 = 5
        · rw [if_pos c1, decide_eq_true c1]; rfl
        · rw [if_neg c1, decide_eq_false c1]
          rw [px_ix (show j + 1 < 48 by omega) (by decide), f6 (j + 1) (by omega), po_b, px_ix hj (by decide), f6 j hj, po_b]
          simp (disch := omega) only [pn_eq]
          by_cases c2 : fcn K (j + 1) = fcn K j
          · rw [if_pos c2, decide_eq_true c2]; rfl
          · rw [if_neg c2, decide_eq_false c2]; rfl
      rw [X6_seen_l4, hone, htwo]
      simp (disch := omega) only [pn_ll, if_neg, px_ix, pj_j, pj_b, pn_al, g4, qS_sh, (hend _ _).1, qn]
      rw [hs]
      cases hn : N j
      · rw [if_neg (by decide), Int64.or_zero, qS_s0 (by unfold snn; rw [hn]; rfl)]
      · rw [if_pos rfl]
        cases hb1 : (decide (j % 6 = 0) || !decide (fcn K (j - 1) = fcn K j))
        · rw [if_pos (by decide), Int64.or_zero, qS_s0 (by unfold snn; rw [hn, hb1]; rfl)]
        · rw [if_neg (by decide)]
          cases hb2 : (decide (j % 6 = 5) || !decide (fcn K (j + 1) = fcn K j))
          · rw [if_pos (by decide), Int64.or_zero, qS_s0 (by unfold snn; rw [hn, hb1, hb2]; rfl)]
          · rw [if_neg (by decide), qS_s1 (by unfold snn; rw [hn, hb1, hb2]; rfl)]
  exact ⟨_, _, hX, hM, rfl, h⟩
