/-! PURE: taken, slack, image, restore -/
theorem isOne_56 : ∀ k, k < 6 → ∀ w, w < 6 → X5_isOne (nI k) (nI w) = X6_isUnder (nI k) (nI w) ∧ ∃ v, X5_isOne (nI k) (nI w) = some v := by
  have h : ∀ k, k < 6 → ∀ w, w < 6 → X5_isOne (nI k) (nI w) = X6_isUnder (nI k) (nI w) ∧ (X5_isOne (nI k) (nI w)).isSome = true := by decide +kernel
  intro k hk w hw
  obtain ⟨a, b⟩ := h k hk w hw
  exact ⟨a, Option.isSome_iff_exists.mp b⟩
theorem p_pins {L : mh_L} {J : mh_I} {P : Nat → Bool} (h5 : L 1 2 = qS P) (g3 : ∀ c, c < 48 → J 3 c = nI (qb P c)) {r : Nat} (hr : r < 8) : ∃ v, X5_pinnedPlaces (nI r) L = some v ∧ X6_pinsIn (nI r) J = some v := by
  obtain ⟨F, hF, eF⟩ := fuel_ex
  unfold X5_pinnedPlaces X6_pinsIn
  rw [eF]
  refine pl_2 (fun f j (x : Int32) => X5_pinnedPlaces_l4 (nI r) L f x (nI j)) (fun f j (x : Int32) => X6_pinsIn_l4 (nI r) J f x (nI j)) 6 (fun a b => ∃ v, a = some v ∧ b = some v) (fun j x y => x = y) ?_ ?_ F 0 0 0 (by omega) (by omega) rfl
  · rintro f x y rfl
    rw [X5_pinnedPlaces_l4, X6_pinsIn_l4, if_pos (by decide), if_pos (by decide)]
    exact ⟨_, rfl, rfl⟩
  · rintro f j x y hj rfl
    left
    have hc : 6 * r + j < 48 := by omega
    have h0 : ∀ j, j < 6 → (nI 0 <<< (nI j &&& 31) : Int32) = 0 := by decide
    rw [X5_pinnedPlaces_l4, X6_pinsIn_l4]
    simp (disch := omega) only [pn_ll, if_neg, px_ix, pn_ml, pn_mr, nI_add, pj_b, pj_j, pn_al]
    rw [show r * 6 + j = 6 * r + j by omega, h5, qS_has _ hc, po_b, g3 _ hc]
    simp only [qI0]
    unfold qb
    cases P (6 * r + j)
    · exact ⟨x, x, rfl, by rw [if_pos rfl], by rw [if_neg (by decide), h0 j hj, Int32.or_zero]⟩
    · exact ⟨x ||| ((1 : Int32) <<< (nI j &&& 31)), x ||| ((1 : Int32) <<< (nI j &&& 31)), rfl, by rw [if_neg (by decide)], by rw [if_pos rfl]; rfl⟩
theorem r_taken : RS_taken Rel := by
  intro T I L J a1 a2 h
  obtain ⟨-, ⟨K, M, P, N, u, n, hc1, -⟩, -⟩ := id h
  obtain ⟨⟨h1, h2, h3, h4, h5, h6, h7⟩, ⟨g1, g2, g3, g4, g5⟩, k1, k2, k3, k4, k5⟩ := hc1
  unfold X5_taken X6_taken
  rcases pa_rng a2 6 (n := 6) (by decide) with ⟨e5, e6, -⟩ | ⟨w, hw, rfl, e5, e6⟩
  · simp only [e5, e6, po_b, if_true]
    exact ⟨_, _, rfl, rfl, rfl, h⟩
  rcases pa_rng a1 55 (n := 55) (by decide) with ⟨f5, f6, -⟩ | ⟨i, hi, rfl, f5, f6⟩
  · simp only [e5, e6, f5, f6, po_b, if_true, pz_10, if_false]
    exact ⟨_, _, rfl, rfl, rfl, h⟩
  simp only [e5, e6, f5, f6, po_b, pz_10, if_false]
  have hL : X5_isLoop (nI i) = some (if i < 48 then 1 else 0) := by
    unfold X5_isLoop
    rw [px_within, po_b, pI]
    by_cases hlt : i < 48
    · rw [if_pos hlt, if_pos ⟨nI_pos' (by omega), nI_le (b := 47) (by omega) (by decide)⟩]
    · rw [if_neg hlt, if_neg (fun hh => (nI_ge (a := 47) (b := i) (by omega) (by omega)) hh.2)]
  rw [hL, po_b]
  simp (disch := omega) only [pn_ll]
  by_cases hlt : i < 48
  · rw [if_pos hlt, if_neg (show ¬ (1 : Int32) = 0 by decide), if_neg (show ¬ 48 ≤ i by omega)]
    simp (disch := omega) only [pn_er, px_ix]
    by_cases h6w : w = 6
    · rw [if_pos h6w, if_pos (by omega)]
      exact ⟨_, _, rfl, rfl, rfl, h⟩
    · rw [if_neg h6w, if_neg (by omega)]
      obtain ⟨a, v, b⟩ := isOne_56 (K i) (h2 i hlt) w (by omega)
      rw [h1 i hlt, g1 i hlt, b, po_b, ← a, b, po_b]
      by_cases hv : v = 0
      · rw [if_pos hv]
        exact ⟨_, _, rfl, rfl, rfl, h⟩
      · rw [if_neg hv]
        exact ⟨_, _, rfl, rfl, rfl, h⟩
  · rw [if_neg hlt, if_pos rfl, if_pos (show 48 ≤ i by omega)]
    obtain ⟨v, v1, v2⟩ := p_pins h5 g3 (r := i - 48) (by omega)
    simp (disch := omega) only [pn_sl, v1, v2, po_b]
    by_cases hv : v = 0
    · simp only [hv, if_true]
      exact ⟨_, _, rfl, rfl, rfl, h⟩
    · simp only [hv, if_false]
      by_cases hw6 : nI w = 6
      · simp only [hw6, if_true]
        exact ⟨_, _, rfl, rfl, rfl, h⟩
      · simp only [hw6, if_false]
        exact ⟨_, _, rfl, rfl, rfl, h⟩
theorem r_slack : RS_slack Rel := by
  intro T I L J a1 a2 h
  obtain ⟨F, hF, eF⟩ := fuel_ex
  obtain ⟨-, ⟨K, M, P, N, u, n, hc1, -⟩, -⟩ := id h
  obtain ⟨⟨h1, h2, h3, h4, h5, h6, h7⟩, ⟨g1, g2, g3, g4, g5⟩, k1, k2, k3, k4, k5⟩ := hc1
  unfold X5_slack X6_slack
  rw [eF]
  rcases pa_loop a1 with ⟨e5, e6⟩ | ⟨c, hc, rfl, e5, e6⟩
  · simp only [e5, e6, po_b, if_true]
    exact ⟨_, _, rfl, rfl, rfl, h⟩
  rcases pa_pull a2 with ⟨f5, f6⟩ | ⟨w, hw, rfl, f5, f6⟩
  · have f5 : X5_within a2 0 99 = some 0 := by
      unfold X5_isPull at f5
      rw [px_within] at f5 ⊢
      exact f5
    simp only [e5, e6, f5, f6, po_b, if_true, pz_10, if_false]
    exact ⟨_, _, rfl, rfl, rfl, h⟩
  have f5 : X5_within (nI w) 0 99 = some 1 := by
    unfold X5_isPull at f5
    rw [px_within] at f5 ⊢
    exact f5
  simp only [e5, e6, f5, f6, po_b, pz_10, if_false]
  simp (disch := omega) only [pn_er, pn_rm, pj_b]
  by_cases hw0 : w = 0
  · subst hw0
    have hF' : F = (F - 1) + 1 := by omega
    rw [if_pos rfl, hF', X6_slack_l28, if_neg (by decide), if_pos (by decide), if_neg (by decide)]
    exact ⟨_, _, rfl, rfl, rfl, h⟩
  rw [if_neg hw0, pk_sub (show c % 6 ≤ c from Nat.mod_le c 6)]
  have hr : c - c % 6 ≤ c := Nat.sub_le _ _
  -- one side, the class's
  have hin : ∀ j, 1 ≤ j → j < 6 → X5_within (nI c + (-1 : Int32) * nI j) (nI (c - c % 6)) ((nI (c - c % 6) + (6 : Int32)) - (1 : Int32)) = some (pI (j ≤ c % 6)) ∧ (j ≤ c % 6 → nI c + (-1 : Int32) * nI j = nI (c - j)) := by
    intro j h1j h6j
    have en : nI c + (-1 : Int32) * nI j = nI c - nI j := by
      rw [Int32.neg_mul, Int32.one_mul, Int32.sub_eq_add_neg]
    have eb : (nI (c - c % 6) + (6 : Int32)) - (1 : Int32) = nI (c - c % 6 + 5) := by
      rw [pn_al, pn_sl (by omega)]
      rfl
    rw [en, eb, px_within]
    refine ⟨?_, fun hj => pk_sub (by omega)⟩
    unfold pI
    have ht := pk_sub_toInt (a := c) (b := j) (by omega) (by omega)
    by_cases hj : j ≤ c % 6
    · rw [if_pos hj, if_pos]
      rw [pk_sub (by omega)]
      exact ⟨nI_le (by omega) (by omega), nI_le (by omega) (by omega)⟩
    · rw [if_neg hj, if_neg]
      rintro ⟨hh, -⟩
      rw [Int32.le_iff_toInt_le, ht, nI_toInt (by omega)] at hh
      omega
  have hin2 : ∀ j, 1 ≤ j → j < 6 → X5_within (nI c + (1 : Int32) * nI j) (nI (c - c % 6)) ((nI (c - c % 6) + (6 : Int32)) - (1 : Int32)) = some (pI (c % 6 + j < 6)) ∧ nI c + (1 : Int32) * nI j = nI (c + j) := by
    intro j h1j h6j
    have en : nI c + (1 : Int32) * nI j = nI (c + j) := by
      rw [Int32.one_mul, nI_add]
    have eb : (nI (c - c % 6) + (6 : Int32)) - (1 : Int32) = nI (c - c % 6 + 5) := by
      rw [pn_al, pn_sl (by omega)]
      rfl
    rw [en, eb, px_within]
    refine ⟨?_, rfl⟩
    unfold pI
    by_cases hj : c % 6 + j < 6
    · rw [if_pos hj, if_pos]
      exact ⟨nI_le (by omega) (by omega), nI_le (by omega) (by omega)⟩
    · rw [if_neg hj, if_neg]
      rintro ⟨-, hh⟩
      exact nI_ge (by omega) (by omega) hh
  have hM : ∀ x, x < 48 → M x < 10 := h4
  have hF3 : F = (F - 3) + 1 + 1 + 1 := by omega
  -- one distance, the class's
  have hX : ∀ (k : Int32 → Int32 → Option Int32) (s g j : Nat), s < 1000 → g < 1000 → 1 ≤ j → j < 6 → X5_slack_l55 (nI c) (nI w) (nI (c - c % 6)) (nI j) I k F (nI s) (nI g) (-1 : Int32) = (if j ≤ c % 6 then (if s + M (c - j) < w then (if c % 6 + j < 6 then (if s + M (c - j) + M (c + j) < w then k (nI (s + M (c - j) + M (c + j))) (nI (g + 1 + 1)) else some (nI (g + 1 + 1))) else k (nI (s + M (c - j))) (nI (g + 1))) else some (nI (g + 1))) else (if c % 6 + j < 6 then (if s + M (c + j) < w then k (nI (s + M (c + j))) (nI (g + 1)) else some (nI (g + 1))) else k (nI s) (nI g))) := by
    intro k s g j hs hg h1j h6j
    obtain ⟨p1, p2⟩ := hin j h1j h6j
    obtain ⟨q1, q2⟩ := hin2 j h1j h6j
    have hlast : ∀ (s g : Int32) (f : Nat), X5_slack_l55 (nI c) (nI w) (nI (c - c % 6)) (nI j) I k (f + 1) s g ((-1 : Int32) + (2 : Int32) + (2 : Int32)) = k s g := by
      intro s g f
      rw [X5_slack_l55, if_pos (by decide)]
    have hsec : ∀ (s g f : Nat), s < 2000 → g < 2000 → X5_slack_l55 (nI c) (nI w) (nI (c - c % 6)) (nI j) I k (f + 1 + 1) (nI s) (nI g) ((-1 : Int32) + (2 : Int32)) = (if c % 6 + j < 6 then (if s + M (c + j) < w then k (nI (s + M (c + j))) (nI (g + 1)) else some (nI (g + 1))) else k (nI s) (nI g)) := by
      intro s g f hs hg
      rw [X5_slack_l55, if_neg (by decide), show (-1 : Int32) + (2 : Int32) = 1 by decide, pj_b, q1, po_b, q2]
      simp only [pj_j, pj_b]
      rw [show (1 : Int32) + (2 : Int32) = (-1 : Int32) + (2 : Int32) + (2 : Int32) by decide]
      simp only [hlast]
      by_cases hj : c % 6 + j < 6
      · have hcj : c + j < 48 := by omega
        have := hM _ hcj
        rw [if_pos hj, pI, if_pos hj, if_neg (by decide), px_ix hcj (by decide), h3 _ hcj, nI_add]
        simp (disch := omega) only [pn_lt, pn_al]
      · rw [if_neg hj, pI, if_neg hj, if_pos rfl]
    rw [hF3, X5_slack_l55, if_neg (by decide), pj_b, p1, po_b]
    simp only [pj_j, pj_b]
    by_cases hj : j ≤ c % 6
    · have hcj : c - j < 48 := by omega
      have := hM _ hcj
      rw [pI, if_pos hj, if_neg (by decide), p2 hj, px_ix hcj (by decide), h3 _ hcj, nI_add, if_pos hj]
      simp (disch := omega) only [pn_lt, pn_al]
      by_cases hlt : s + M (c - j) < w
      · rw [if_pos hlt, if_pos hlt, hsec _ _ _ (by omega) (by omega)]
      · rw [if_neg hlt, if_neg hlt]
    · rw [pI, if_neg hj, if_pos rfl, if_neg hj, hsec _ _ _ (by omega) (by omega)]
  have hexit : ∀ (s g f : Nat) (z : Int32), w ≤ s → s < 2000 → X6_slack_l28 (nI c) (nI w) J (fun (v23 : Int32) (v24 : Int32) => if v23 < nI w then some (-1 : Int32) else some v24) (f + 1) (nI s) (nI g) z = some (nI g) := by
    intro s g f z hs hs2
    have e1 : ¬ nI s < nI w := nI_nlt hs (by omega)
    have e2 : nI w ≤ nI s := nI_le hs (by omega)
    rw [X6_slack_l28]
    split
    · rfl
    · rfl
  obtain ⟨F1, hF1⟩ : ∃ F1, F = F1 + 1 := ⟨F - 1, by omega⟩
  have hres : ∃ q r, X5_slack_l45 (nI c) (nI w) (nI (c - c % 6)) I (F1 + 1) (nI 0) (nI 0) (nI (0 + 1)) = some q ∧ X6_slack_l28 (nI c) (nI w) J (fun (v23 : Int32) (v24 : Int32) => if v23 < nI w then some (-1 : Int32) else some v24) (F1 + 1) (nI 0) (nI 0) (nI (0 + 1)) = some r ∧ q = r ∧ Rel T I L J := by
    refine pl_2 (fun f j (x : Nat × Nat) => X5_slack_l45 (nI c) (nI w) (nI (c - c % 6)) I (f + 1) (nI x.1) (nI x.2) (nI (j + 1))) (fun f j (x : Nat × Nat) => X6_slack_l28 (nI c) (nI w) J (fun (v23 : Int32) (v24 : Int32) => if v23 < nI w then some (-1 : Int32) else some v24) (f + 1) (nI x.1) (nI x.2) (nI (j + 1))) 5 (fun a b => ∃ q r, a = some q ∧ b = some r ∧ q = r ∧ Rel T I L J) (fun j x y => x = y ∧ x.1 < w ∧ x.1 ≤ 20 * j ∧ x.2 ≤ 2 * j) ?_ ?_ F1 0 (0, 0) (0, 0) (by omega) (by omega) ⟨rfl, by show 0 < w; omega, Nat.le_refl 0, Nat.le_refl 0⟩
    · rintro f ⟨s, g⟩ y ⟨rfl, hs, -, -⟩
      dsimp only at hs
      dsimp only
      rw [X5_slack_l45, X6_slack_l28, if_pos (by decide), if_pos (by decide)]
      simp (disch := omega) only [pn_lt, if_pos]
      exact ⟨_, _, rfl, rfl, rfl, h⟩
    · rintro f j ⟨s, g⟩ y hj ⟨rfl, hs, hs2, hg⟩
      dsimp only at hs hs2 hg
      dsimp only
      have eM : X6_slack_l28 (nI c) (nI w) J (fun (v23 : Int32) (v24 : Int32) => if v23 < nI w then some (-1 : Int32) else some v24) (f + 1 + 1) (nI s) (nI g) (nI (j + 1)) = (if j + 1 ≤ c % 6 then (if c % 6 + (j + 1) < 6 then (if w ≤ s + M (c - (j + 1)) then X6_slack_l28 (nI c) (nI w) J (fun (v23 : Int32) (v24 : Int32) => if v23 < nI w then some (-1 : Int32) else some v24) (f + 1) (nI (s + M (c - (j + 1)))) (nI (g + 1)) (nI (j + 1 + 1)) else X6_slack_l28 (nI c) (nI w) J (fun (v23 : Int32) (v24 : Int32) => if v23 < nI w then some (-1 : Int32) else some v24) (f + 1) (nI (s + M (c - (j + 1)) + M (c + (j + 1)))) (nI (g + 1 + 1)) (nI (j + 1 + 1))) else X6_slack_l28 (nI c) (nI w) J (fun (v23 : Int32) (v24 : Int32) => if v23 < nI w then some (-1 : Int32) else some v24) (f + 1) (nI (s + M (c - (j + 1)))) (nI (g + 1)) (nI (j + 1 + 1))) else (if c % 6 + (j + 1) < 6 then X6_slack_l28 (nI c) (nI w) J (fun (v23 : Int32) (v24 : Int32) => if v23 < nI w then some (-1 : Int32) else some v24) (f + 1) (nI (s + M (c + (j + 1)))) (nI (g + 1)) (nI (j + 1 + 1)) else X6_slack_l28 (nI c) (nI w) J (fun (v23 : Int32) (v24 : Int32) => if v23 < nI w then some (-1 : Int32) else some v24) (f + 1) (nI s) (nI g) (nI (j + 1 + 1)))) := by
        rw [X6_slack_l28]
        simp (disch := omega) only [pn_ll, if_neg, pn_le, pn_rm, pj_j, pj_b, nI_add, pn_al]
        by_cases hl : j + 1 ≤ c % 6
        · have hcj : c - (j + 1) < 48 := by omega
          have := hM _ hcj
          rw [if_neg (by rw [pk_sub hl]; exact nI_pos (by omega)), if_pos hl, pk_sub (show j + 1 ≤ c by omega), px_ix hcj (by decide), g2 _ hcj, nI_add]
          by_cases hr2 : c % 6 + (j + 1) < 6
          · have hcj2 : c + (j + 1) < 48 := by omega
            have := hM _ hcj2
            rw [if_neg (show ¬ 6 ≤ c % 6 + (j + 1) by omega), if_pos hr2, px_ix hcj2 (by decide), g2 _ hcj2]
            simp (disch := omega) only [pn_le, nI_add]
          · rw [if_pos (show 6 ≤ c % 6 + (j + 1) by omega), if_neg hr2]
        · rw [if_pos (pk_sneg (by omega) (by omega)), if_neg hl]
          by_cases hr2 : c % 6 + (j + 1) < 6
          · have hcj2 : c + (j + 1) < 48 := by omega
            have := hM _ hcj2
            rw [if_neg (show ¬ 6 ≤ c % 6 + (j + 1) by omega), if_pos hr2, px_ix hcj2 (by decide), g2 _ hcj2, nI_add]
          · rw [if_pos (show 6 ≤ c % 6 + (j + 1) by omega), if_neg hr2]
      rw [eM, X5_slack_l45, if_neg (by rw [show (6 : Int32) = nI 6 from rfl]; exact nI_ge (by omega) (by decide)), eF, hX _ s g (j + 1) (by omega) (by omega) (by omega) (by omega)]
      simp only [pj_b, pn_al]
      have b1 : ∀ x, M x < 10 ∨ 48 ≤ x := fun x => by
        rcases Nat.lt_or_ge x 48 with hx | hx
        · exact .inl (hM x hx)
        · exact .inr hx
      by_cases hl : j + 1 ≤ c % 6
      · have m1 := hM (c - (j + 1)) (by omega)
        rw [if_pos hl, if_pos hl]
        by_cases hlt : s + M (c - (j + 1)) < w
        · rw [if_pos hlt]
          by_cases hr2 : c % 6 + (j + 1) < 6
          · have m2 := hM (c + (j + 1)) (by omega)
            rw [if_pos hr2, if_pos hr2, if_neg (show ¬ w ≤ s + M (c - (j + 1)) by omega)]
            by_cases hlt2 : s + M (c - (j + 1)) + M (c + (j + 1)) < w
            · left
              rw [if_pos hlt2]
              exact ⟨(s + M (c - (j + 1)) + M (c + (j + 1)), g + 1 + 1), _, ⟨rfl, hlt2, by dsimp only; omega, by dsimp only; omega⟩, rfl, rfl⟩
            · right
              rw [if_neg hlt2, hexit _ _ _ _ (by omega) (by omega)]
              exact ⟨_, _, rfl, rfl, rfl, h⟩
          · left
            rw [if_neg hr2, if_neg hr2]
            exact ⟨(s + M (c - (j + 1)), g + 1), _, ⟨rfl, hlt, by dsimp only; omega, by dsimp only; omega⟩, rfl, rfl⟩
        · right
          rw [if_neg hlt, if_pos (show w ≤ s + M (c - (j + 1)) by omega), ite_self, hexit _ _ _ _ (by omega) (by omega)]
          exact ⟨_, _, rfl, rfl, rfl, h⟩
      · rw [if_neg hl, if_neg hl]
        by_cases hr2 : c % 6 + (j + 1) < 6
        · have m2 := hM (c + (j + 1)) (by omega)
          rw [if_pos hr2, if_pos hr2]
          by_cases hlt : s + M (c + (j + 1)) < w
          · left
            rw [if_pos hlt]
            exact ⟨(s + M (c + (j + 1)), g + 1), _, ⟨rfl, hlt, by dsimp only; omega, by dsimp only; omega⟩, rfl, rfl⟩
          · right
            rw [if_neg hlt, hexit _ _ _ _ (by omega) (by omega)]
            exact ⟨_, _, rfl, rfl, rfl, h⟩
        · left
          rw [if_neg hr2, if_neg hr2]
          exact ⟨(s, g), _, ⟨rfl, hs, by dsimp only; omega, by dsimp only; omega⟩, rfl, rfl⟩
  rw [hF1]
  exact hres
