/-! PURE: what hangs on what -/
def Hs (K : Nat → Nat) (c : Nat) (H : Nat → Bool) (x : Nat) : Bool := decide (6 ≤ x) && ((qO (K x) && (decide (x - 6 = c) || H (x - 6))) || (qX (K x) && (decide (pnb (x - 6) = c) || H (pnb (x - 6)))))
def hN (K : Nat → Nat) (c : Nat) : Nat → Nat → Bool
  | 0, _ => false
  | n + 1, x => Hs K c (hN K c n) x
def Hg (K : Nat → Nat) (c : Nat) : Nat → Bool := hN K c 48
theorem Hs_ext {K : Nat → Nat} {c : Nat} {H H' : Nat → Bool} {x : Nat} (h : ∀ y, y < x → H y = H' y) : Hs K c H x = Hs K c H' x := by
  unfold Hs
  by_cases h6 : 6 ≤ x
  · rw [h (x - 6) (by omega), h (pnb (x - 6)) (by unfold pnb; omega)]
  · rw [decide_eq_false h6]; rfl
theorem Hg_s (K : Nat → Nat) (c : Nat) {x : Nat} (hx : x < 48) : Hg K c x = Hs K c (Hg K c) x := by
  have key : ∀ n x, x < n → hN K c n x = hN K c (n + 1) x := by
    intro n
    induction n with
    | zero => intro x h; omega
    | succ n ih =>
      intro x h
      exact Hs_ext (fun y hy => ih y (by omega))
  exact key 48 x hx
theorem Hs_iff {K : Nat → Nat} {c : Nat} {H : Nat → Bool} {x : Nat} (hx : x < 48) : Hs K c H x = true ↔ ∃ y, y < 48 ∧ qgt K x y = true ∧ (y = c ∨ H y = true) := by
  unfold Hs qgt
  simp only [Bool.and_eq_true, Bool.or_eq_true, decide_eq_true_eq]
  constructor
  · rintro ⟨h6, ⟨h1, h2⟩ | ⟨h1, h2⟩⟩
    · exact ⟨x - 6, by omega, ⟨hx, .inl ⟨by omega, h1⟩⟩, h2⟩
    · exact ⟨pnb (x - 6), by unfold pnb; omega, ⟨hx, .inr ⟨by unfold pnb; omega, h1⟩⟩, h2⟩
  · rintro ⟨y, hy, ⟨-, ⟨h1, h2⟩ | ⟨h1, h2⟩⟩, h3⟩
    · rw [show x - 6 = y by omega]
      exact ⟨by omega, .inl ⟨h2, h3⟩⟩
    · rw [show pnb (x - 6) = y by unfold pnb at *; omega]
      exact ⟨by omega, .inr ⟨h2, h3⟩⟩
theorem Hg_iff {K : Nat → Nat} {c x : Nat} (hx : x < 48) : Hg K c x = true ↔ ∃ y, y < 48 ∧ qgt K x y = true ∧ (y = c ∨ Hg K c y = true) := by
  rw [Hg_s K c hx]
  exact Hs_iff hx
theorem Hg_gt {K : Nat → Nat} {c : Nat} : ∀ x, x < 48 → Hg K c x = true → c < x := by
  intro x
  induction x using Nat.strongRecOn with
  | _ x ih =>
    intro hx h
    obtain ⟨y, hy, h1, h2⟩ := (Hg_iff hx).mp h
    have h3 := (qgt_gt h1).1
    rcases h2 with h2 | h2
    · omega
    · have := ih y h3 hy h2
      omega
theorem Hg_up {K : Nat → Nat} : ∀ c, c < 48 → ∀ o, o < 48 → (Hg K o c = true ↔ ∃ y, y < 48 ∧ qgt K y o = true ∧ (y = c ∨ Hg K y c = true)) := by
  intro c
  induction c using Nat.strongRecOn with
  | _ c ih =>
    intro hc o ho
    constructor
    · intro h
      obtain ⟨z, hz, h1, h2⟩ := (Hg_iff hc).mp h
      have hzc := (qgt_gt h1).1
      rcases h2 with rfl | h2
      · exact ⟨c, hc, h1, .inl rfl⟩
      · obtain ⟨y, hy, h3, h4⟩ := (ih z hzc hz o ho).mp h2
        refine ⟨y, hy, h3, .inr ((Hg_iff hc).mpr ⟨z, hz, h1, ?_⟩)⟩
        rcases h4 with h4 | h4
        · exact .inl h4.symm
        · exact .inr h4
    · rintro ⟨y, hy, h1, h2⟩
      rcases h2 with rfl | h2
      · exact (Hg_iff hc).mpr ⟨o, ho, h1, .inl rfl⟩
      · obtain ⟨z, hz, h3, h4⟩ := (Hg_iff hc).mp h2
        have hzc := (qgt_gt h3).1
        refine (Hg_iff hc).mpr ⟨z, hz, h3, .inr ?_⟩
        rcases h4 with rfl | h4
        · exact (Hg_iff hz).mpr ⟨o, ho, h1, .inl rfl⟩
        · exact (ih z hzc hz o ho).mpr ⟨y, hy, h1, .inr h4⟩
theorem tN_S : ∀ k, k < 6 → ∀ x, x < 48 → 6 ≤ x → tN k (x % 6) * 2 ^ (6 * (x / 6 - 1)) = pS (fun y => (decide (x = y + 6) && qO k) || (decide (x = pnb y + 6) && qX k)) 48 := by decide +kernel
theorem cx_under {I : mh_I} {K : Nat → Nat} (hK : cK 2 I K) (hb : bK K 6) {x : Nat} (hx : x < 48) : X1_under 1 (nI x) I = some (qS (fun y => qgt K x y)) := by
  unfold X1_under
  rw [cx_places (o := 1) hK hb hx, po_b, pj_b]
  simp (disch := omega) only [pn_ll]
  have hl := tN_lt (K x) (hb x hx) (x % 6) (by omega)
  by_cases h6 : 6 ≤ x
  · rw [if_pos h6]
    simp (disch := omega) only [pn_dv, pn_sl, pn_ml]
    rw [nI_l (by omega), wb_shl _ (show (x / 6 - 1) * 6 < 64 by omega), Nat.mul_comm (x / 6 - 1) 6, tN_S _ (hb x hx) x hx h6]
    refine congrArg some (qS_ext fun y _ => ?_)
    unfold qgt
    rw [decide_eq_true hx]; rfl
  · rw [if_neg h6, qS_0]
    refine congrArg some (qS_ext fun y _ => ?_)
    unfold qgt
    rw [decide_eq_false (show ¬ x = y + 6 by omega), decide_eq_false (show ¬ x = pnb y + 6 by omega)]
    simp
theorem bf_iff {a b : Bool} (h : a = true ↔ b = true) : a = b := by
  cases a <;> cases b <;> simp at h ⊢
theorem cx_hanging {I : mh_I} {K : Nat → Nat} (hK : cK 2 I K) (hb : bK K 6) {c : Nat} (hc : c < 48) : X5_hangingOn (nI c) I = some (qS (Hg K c)) := by
  obtain ⟨F, hF, eF⟩ := fuel_ex
  unfold X5_hangingOn
  rw [eF, pj_b, nI_1]
  refine pl_up (fun f j s => X5_hangingOn_l7 (nI c) I f s j) 48 (fun r => r = some (qS (Hg K c))) (fun j s => s = qS (fun i => decide (i < j) && Hg K c i)) ?_ ?_ F (c + 1) 0 (by omega) (by omega) ?_
  · intro f s hs
    show X5_hangingOn_l7 (nI c) I (f + 1) s (nI 48) = _
    rw [X5_hangingOn_l7, if_pos (by decide), hs, qS_sE]
  · intro f j s hj hs
    left
    refine ⟨_, rfl, ?_⟩
    show X5_hangingOn_l7 (nI c) I (f + 1) s (nI j) = X5_hangingOn_l7 (nI c) I f (qS (fun i => decide (i < j + 1) && Hg K c i)) (nI (j + 1))
    rw [X5_hangingOn_l7, cx_under hK hb hj, qS_bit hc, qS_bit hj, hs]
    simp (disch := omega) only [pn_ll, if_neg, po_b, pj_j, pj_b, pn_al, qS_or, qS_and, qS_z]
    by_cases hH : Hg K c j = true
    · rw [if_neg (fun hh => ?_)]
      · refine congrArg (fun z => X5_hangingOn_l7 (nI c) I f z (nI (j + 1))) ?_
        rw [← qS_s1 hH, qS_or]
      · obtain ⟨y, hy, h1, h2⟩ := (Hg_iff hj).mp hH
        have := hh y hy
        rw [h1, Bool.true_and] at this
        rcases h2 with h2 | h2
        · rw [decide_eq_true h2, Bool.or_true] at this; cases this
        · rw [decide_eq_true (qgt_gt h1).1, h2] at this; cases this
    · have hH' : Hg K c j = false := by simpa using hH
      rw [if_pos (fun y hy => ?_), qS_s0 hH']
      cases hq : qgt K j y
      · rfl
      · rw [Bool.true_and]
        refine bf_iff ⟨fun hh => ?_, fun hh => by cases hh⟩
        exfalso
        refine hH ((Hg_iff hj).mpr ⟨y, hy, hq, ?_⟩)
        simp only [Bool.or_eq_true, Bool.and_eq_true, decide_eq_true_eq] at hh
        rcases hh with ⟨-, hh⟩ | hh
        · exact .inr hh
        · exact .inl hh
  · rw [qS_0]
    refine qS_ext fun i hi => ?_
    cases hH : Hg K c i
    · rw [Bool.and_false]
    · rw [decide_eq_false (by have := Hg_gt i hi hH; omega), Bool.false_and]
def hj6 (K : Nat → Nat) (c j i : Nat) : Bool := Hs K c (fun y => decide (y < j) && Hg K c y) i
theorem cm_hanging {J : mh_I} {K : Nat → Nat} (hK : cK 1 J K) (hb : bK K 6) {c : Nat} (hc : c < 48) : X6_hanging (nI c) J = some (qS (Hg K c)) := by
  obtain ⟨F, hF, eF⟩ := fuel_ex
  unfold X6_hanging
  rw [eF, cm_uppers hK hb hc, po_b, pj_b, nI_1]
  refine pl_up (fun f j s => X6_hanging_l11 J f s j) 48 (fun r => r = some (qS (Hg K c))) (fun j s => s = qS (hj6 K c j)) ?_ ?_ F (c + 1) _ (by omega) (by omega) ?_
  · intro f s hs
    show X6_hanging_l11 J (f + 1) s (nI 48) = _
    rw [X6_hanging_l11, if_pos (by decide), hs]
    refine congrArg some (qS_ext fun i hi => ?_)
    rw [Hg_s K c hi]
    exact Hs_ext (fun y hy => by rw [decide_eq_true (show y < 48 by omega), Bool.true_and])
  · intro f j s hj hs
    left
    refine ⟨_, rfl, ?_⟩
    show X6_hanging_l11 J (f + 1) s (nI j) = X6_hanging_l11 J f (qS (hj6 K c (j + 1))) (nI (j + 1))
    have hjj : hj6 K c j j = Hg K c j := by
      rw [Hg_s K c hj]
      exact Hs_ext (fun y hy => by rw [decide_eq_true hy, Bool.true_and])
    rw [X6_hanging_l11, cm_uppers hK hb hj, hs]
    simp (disch := omega) only [pn_ll, if_neg, po_b, pj_j, pj_b, pn_al, qS_has1, hjj]
    have hstep : ∀ i, i < 48 → (hj6 K c (j + 1) i = true ↔ hj6 K c j i = true ∨ (Hg K c j = true ∧ qgt K i j = true)) := by
      intro i hi
      unfold hj6
      rw [Hs_iff hi, Hs_iff hi]
      simp only [Bool.and_eq_true, decide_eq_true_eq]
      constructor
      · rintro ⟨y, hy, h1, h2 | ⟨h2, h3⟩⟩
        · exact .inl ⟨y, hy, h1, .inl h2⟩
        · by_cases e : y = j
          · subst e; exact .inr ⟨h3, h1⟩
          · exact .inl ⟨y, hy, h1, .inr ⟨by omega, h3⟩⟩
      · rintro (⟨y, hy, h1, h2 | ⟨h2, h3⟩⟩ | ⟨h2, h3⟩)
        · exact ⟨y, hy, h1, .inl h2⟩
        · exact ⟨y, hy, h1, .inr ⟨by omega, h3⟩⟩
        · exact ⟨j, hj, h3, .inr ⟨by omega, h2⟩⟩
    cases hH : Hg K c j
    · rw [if_neg (by decide), Int64.or_zero]
      refine congrArg (fun z => X6_hanging_l11 J f z (nI (j + 1))) (qS_ext fun i hi => ?_)
      refine bf_iff ⟨fun h => (hstep i hi).mpr (.inl h), fun h => ?_⟩
      rcases (hstep i hi).mp h with h | ⟨h, -⟩
      · exact h
      · rw [hH] at h; cases h
    · rw [if_pos rfl, qS_or]
      refine congrArg (fun z => X6_hanging_l11 J f z (nI (j + 1))) (qS_ext fun i hi => ?_)
      refine bf_iff ⟨fun h => ?_, fun h => ?_⟩
      · rw [Bool.or_eq_true] at h
        rcases h with h | h
        · exact (hstep i hi).mpr (.inl h)
        · exact (hstep i hi).mpr (.inr ⟨hH, h⟩)
      · rw [Bool.or_eq_true]
        rcases (hstep i hi).mp h with h | ⟨-, h⟩
        · exact .inl h
        · exact .inr h
  · refine qS_ext fun i hi => ?_
    refine bf_iff ⟨fun h => ?_, fun h => ?_⟩
    · unfold hj6
      exact (Hs_iff hi).mpr ⟨c, hc, h, .inl rfl⟩
    · unfold hj6 at h
      obtain ⟨y, hy, h1, h2⟩ := (Hs_iff hi).mp h
      rcases h2 with rfl | h2
      · exact h1
      · simp only [Bool.and_eq_true, decide_eq_true_eq] at h2
        have := Hg_gt y hy h2.2
        omega
theorem cx_bearing {I : mh_I} {K : Nat → Nat} (hK : cK 2 I K) (hb : bK K 6) {c : Nat} (hc : c < 48) : X5_bearing (nI c) I = some (qS (fun o => Hg K o c)) := by
  obtain ⟨F, hF, eF⟩ := fuel_ex
  unfold X5_bearing
  rw [eF, pj_b, dI_s]
  refine pl_dn (fun f j s => X5_bearing_l7 (nI c) I f s j) (fun r => r = some (qS (fun o => Hg K o c))) (fun j s => j ≤ c ∧ s = qS (fun i => decide (j ≤ i) && Hg K i c)) ?_ ?_ F c 0 (by omega) ⟨Nat.le_refl c, ?_⟩
  · rintro f s ⟨-, hs⟩
    show X5_bearing_l7 (nI c) I (f + 1) s (-1) = _
    rw [X5_bearing_l7, if_pos (by decide), hs]
    exact congrArg some (qS_ext fun i _ => by rw [decide_eq_true (Nat.zero_le i), Bool.true_and])
  · rintro f j s ⟨hjc, hs⟩
    left
    have hj : j < 48 := by omega
    refine ⟨_, ⟨by omega, rfl⟩, ?_⟩
    show X5_bearing_l7 (nI c) I (f + 1) s (nI j) = X5_bearing_l7 (nI c) I f (qS (fun i => decide (j ≤ i) && Hg K i c)) (dI j)
    rw [X5_bearing_l7, cx_over (o := 1) hK hb hj, qS_bit hc, qS_bit hj, hs, if_neg (nI_pos (by omega))]
    simp (disch := omega) only [po_b, pj_j, pj_b, dI_p, qS_or, qS_and, qS_z]
    have hstep : ∀ (b : Bool), Hg K j c = b → ∀ i, ((decide (j + 1 ≤ i) && Hg K i c) || (decide (i = j) && b)) = (decide (j ≤ i) && Hg K i c) := by
      intro b hbb i
      by_cases e : i = j
      · subst e; rw [hbb, decide_eq_true rfl, decide_eq_false (show ¬ i + 1 ≤ i by omega), decide_eq_true (Nat.le_refl i)]; simp
      · rw [decide_eq_false e]
        by_cases e2 : j ≤ i
        · rw [decide_eq_true e2, decide_eq_true (show j + 1 ≤ i by omega)]; simp
        · rw [decide_eq_false e2, decide_eq_false (show ¬ j + 1 ≤ i by omega)]; simp
    by_cases hH : Hg K j c = true
    · rw [if_neg (fun hh => ?_)]
      · refine congrArg (fun z => X5_bearing_l7 (nI c) I f z (dI j)) (qS_ext fun i _ => ?_)
        rw [← hstep true hH i, Bool.and_true]
      · obtain ⟨y, hy, h1, h2⟩ := (Hg_up c hc j hj).mp hH
        have := hh y hy
        rw [h1, Bool.true_and] at this
        rcases h2 with h2 | h2
        · rw [decide_eq_true h2, Bool.or_true] at this; cases this
        · rw [decide_eq_true (show j + 1 ≤ y from (qgt_gt h1).1), h2] at this; cases this
    · have hH' : Hg K j c = false := by simpa using hH
      rw [if_pos (fun y hy => ?_)]
      · refine congrArg (fun z => X5_bearing_l7 (nI c) I f z (dI j)) (qS_ext fun i _ => ?_)
        rw [← hstep false hH' i, Bool.and_false, Bool.or_false]
      · cases hq : qgt K y j
        · rfl
        · rw [Bool.true_and]
          refine bf_iff ⟨fun hh => ?_, fun hh => by cases hh⟩
          exfalso
          refine hH ((Hg_up c hc j hj).mpr ⟨y, hy, hq, ?_⟩)
          simp only [Bool.or_eq_true, Bool.and_eq_true, decide_eq_true_eq] at hh
          rcases hh with ⟨-, hh⟩ | hh
          · exact .inr hh
          · exact .inl hh
  · rw [qS_0]
    refine qS_ext fun i hi => ?_
    cases hH : Hg K i c
    · rw [Bool.and_false]
    · rw [decide_eq_false (by have := Hg_gt c hc hH; omega), Bool.false_and]
theorem r_hangs : RS_hangs Rel := by
  intro T I L J a1 a2 h
  obtain ⟨F, hF, eF⟩ := fuel_ex
  obtain ⟨-, ⟨K, M, P, N, u, n, hc1, -⟩, -⟩ := id h
  obtain ⟨⟨h1, h2, h3, h4, h5, h6, h7⟩, ⟨g1, g2, g3, g4, g5⟩, k1, k2, k3, k4, k5⟩ := hc1
  unfold X5_hangs X6_hangs
  rw [eF]
  rcases pa_loop a1 with ⟨e5, e6⟩ | ⟨c, hc, rfl, e5, e6⟩
  · simp only [e5, e6, po_b, if_true]
    exact ⟨_, _, rfl, rfl, rfl, h⟩
  have hF' : F = (F - 1) + 1 := by omega
  rcases pa_rng a2 2 (n := 2) (by decide) with ⟨-, f6, hno⟩ | ⟨w, hw, rfl, -, f6⟩
  · have n0 : ¬ a2 = 0 := fun e => hno (by rw [e]; decide)
    have n1 : ¬ a2 = 1 := fun e => hno (by rw [e]; decide)
    have n2 : ¬ a2 = 2 := fun e => hno (by rw [e]; decide)
    simp only [e5, e6, f6, po_b, if_true, pz_10, if_false, n0, n1, n2]
    exact ⟨_, _, rfl, rfl, rfl, h⟩
  simp only [e5, e6, f6, po_b, pz_10, if_false]
  rcases (show w = 0 ∨ w = 1 ∨ w = 2 by omega) with rfl | rfl | rfl
  · rw [if_pos (by decide), cx_over (o := 1) h1 h2 hc, po_b, hF', X6_hangs_l25, if_neg (by decide), if_neg (by decide), if_pos (by decide), cm_uppers g1 h2 hc, po_b]
    exact ⟨_, _, rfl, rfl, rfl, h⟩
  · rw [if_neg (by decide), if_pos (by decide), cx_hanging h1 h2 hc, po_b, hF', X6_hangs_l25, if_neg (by decide), if_neg (by decide), if_neg (by decide), if_pos (by decide), cm_hanging g1 h2 hc, po_b]
    exact ⟨_, _, rfl, rfl, rfl, h⟩
  · rw [if_neg (by decide), if_neg (by decide), if_pos (by decide), cx_bearing h1 h2 hc, po_b]
    have hl : X6_hangs_l25 (nI c) (nI 2) J (fun (v11 : Int64) => if nI 2 = 0 then (X6_uppers (nI c) J).bind (fun q14 => some q14) else if nI 2 = (1 : Int32) then (X6_hanging (nI c) J).bind (fun q12 => some q12) else some v11) F (0 : Int64) (0 : Int32) = some (qS (fun o => Hg K o c)) := by
      refine pl_up (fun f j s => X6_hangs_l25 (nI c) (nI 2) J _ f s j) 48 (fun r => r = some (qS (fun o => Hg K o c))) (fun j s => s = qS (fun i => decide (i < j) && Hg K i c)) ?_ ?_ F 0 0 (by omega) (by omega) qS_sI
      · intro f s hs
        show X6_hangs_l25 (nI c) (nI 2) J _ (f + 1) s (nI 48) = _
        rw [X6_hangs_l25, if_pos (by decide), if_neg (by decide), if_neg (by decide), hs]
        exact congrArg some qS_sE
      · intro f j s hj hs
        left
        refine ⟨_, rfl, ?_⟩
        show X6_hangs_l25 (nI c) (nI 2) J _ (f + 1) s (nI j) = X6_hangs_l25 (nI c) (nI 2) J _ f (qS (fun i => decide (i < j + 1) && Hg K i c)) (nI (j + 1))
        rw [X6_hangs_l25, cm_hanging g1 h2 hj]
        simp (disch := omega) only [pn_ll, if_neg, po_b, pj_j, pj_b, pn_al, qS_has1, qS_sh]
        rw [if_pos (show nI 2 = (2 : Int32) from rfl), hs]
        cases hH : Hg K j c
        · rw [if_neg (by decide), Int64.or_zero, qS_s0 (P := fun i => Hg K i c) hH]
        · rw [if_pos rfl, qS_s1 (P := fun i => Hg K i c) hH]
    rw [hl]
    exact ⟨_, _, rfl, rfl, rfl, h⟩
theorem r_back : RS_back Rel := by
  intro T I L J a1 h
  obtain ⟨-, ⟨K, M, P, N, u, n, hc1, -⟩, -⟩ := id h
  obtain ⟨⟨h1, h2, h3, h4, h5, h6, h7⟩, ⟨g1, g2, g3, g4, g5⟩, k1, k2, k3, k4, k5⟩ := hc1
  unfold X5_back X6_back
  rcases pa_loop a1 with ⟨e5, e6⟩ | ⟨c, hc, rfl, e5, e6⟩
  · simp only [e5, e6, po_b, if_true]
    exact ⟨_, _, rfl, rfl, rfl, h⟩
  simp only [e5, e6, po_b, pz_10, if_false, cx_hanging h1 h2 hc, cm_hanging g1 h2 hc, qS_bitCount, qS_bitsOf]
  exact ⟨_, _, rfl, rfl, rfl, h⟩
