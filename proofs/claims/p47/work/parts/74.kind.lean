/-! PURE: kinds, what goes through what -/
def qO (k : Nat) : Bool := !(k == 2) && !(k == 4)
def qX (k : Nat) : Bool := (k == 2) || (k == 3)
def qgt (K : Nat → Nat) (y x : Nat) : Bool := decide (y < 48) && ((decide (y = x + 6) && qO (K y)) || (decide (y = pnb x + 6) && qX (K y)))
def qkp (K : Nat → Nat) (P : Nat → Bool) (c : Nat) : Bool := (K c == 5) || P c
theorem qO_5 : ∀ k, k < 6 → X5_goesThroughOwn (nI k) = some (nI (qb (fun _ => qO k) 0)) := by decide
theorem qX_5 : ∀ k, k < 6 → X5_goesThroughNext (nI k) = some (nI (qb (fun _ => qX k) 0)) := by decide
theorem qface_5 : ∀ k, k < 6 → X5_faceOf (nI k) = some (nI (if k = 1 then 1 else 0)) := by decide
theorem qface_6 : ∀ k, k < 6 → X6_faceOf (nI k) = some (nI (if k = 1 then 1 else 0)) := by decide
theorem qb0 {b : Bool} : (nI (qb (fun _ => b) 0) = 0) = (b = false) := by cases b <;> decide
theorem qI0 {b : Bool} : (pI (b = true) = 0) = (b = false) := by cases b <;> decide
theorem pnb_6 (c : Nat) : pnb (c + 6) = pnb c + 6 := by unfold pnb; omega
theorem pnb_lt {c : Nat} (h : c < 48) : pnb c < 48 := by unfold pnb; omega
theorem pnb_42 {c : Nat} (h : c < 42) : pnb c < 42 := by unfold pnb; omega
/-- what of the class's loops a place of its ints says -/
def cK (b : Nat) (I : mh_I) (K : Nat → Nat) : Prop := ∀ c, c < 48 → I b c = nI (K c)
def bK (K : Nat → Nat) (n : Nat) : Prop := ∀ c, c < 48 → K c < n
theorem cx_over {o : Nat} {I : mh_I} {K : Nat → Nat} (hK : cK (o + 1) I K) (hb : bK K 6) {c : Nat} (hc : c < 48) : X1_over o (nI c) I = some (qS (fun y => qgt K y c)) := by
  unfold X1_over
  simp (disch := omega) only [mh_b, pn_al, pn_tr]
  by_cases h : c + 6 < 48
  · rw [if_pos h, pn_xr (show c + 6 < 64 by omega), px_ix h (by decide), hK _ h, qO_5 _ (hb _ h), po_b]
    have hn : pnb (c + 6) < 48 := pnb_lt h
    simp only [mh_j, px_ix hn (show 48 < 2 ^ 31 by decide), hK _ hn, qX_5 _ (hb _ hn), po_b, qb0, qS_bit h, qS_bit hn]
    have key : ∀ b1 b2 : Bool, (if b1 = false then (if b2 = false then some (0 : Int64) else some ((0 : Int64) ||| qS (fun i => decide (i = pnb (c + 6))))) else (if b2 = false then some (qS (fun i => decide (i = c + 6))) else some (qS (fun i => decide (i = c + 6)) ||| qS (fun i => decide (i = pnb (c + 6)))))) = some (qS (fun i => (decide (i = c + 6) && b1) || (decide (i = pnb (c + 6)) && b2))) := by
      intro b1 b2
      cases b1 <;> cases b2
      · refine congrArg some (qS_0.trans (qS_ext fun i hi => ?_))
        rw [Bool.and_false, Bool.and_false]; rfl
      · refine congrArg some ?_
        rw [qS_0, qS_or]
        refine qS_ext fun i hi => ?_
        rw [Bool.and_false, Bool.and_true]
      · refine congrArg some (qS_ext fun i hi => ?_)
        rw [Bool.and_false, Bool.and_true, Bool.or_false]
      · refine congrArg some ?_
        rw [qS_or]
        refine qS_ext fun i hi => ?_
        rw [Bool.and_true, Bool.and_true]
    have e : qS (fun y => qgt K y c) = qS (fun i => (decide (i = c + 6) && qO (K (c + 6))) || (decide (i = pnb (c + 6)) && qX (K (pnb (c + 6))))) := by
      refine qS_ext fun i hi => ?_
      unfold qgt
      rw [← pnb_6, decide_eq_true hi, Bool.true_and]
      by_cases e1 : i = c + 6
      · rw [e1]
        by_cases e2 : c + 6 = pnb (c + 6)
        · rw [← e2]
        · rw [decide_eq_false e2, Bool.false_and, Bool.false_and]
      · rw [decide_eq_false e1, Bool.false_and, Bool.false_and]
        by_cases e2 : i = pnb (c + 6)
        · rw [e2]
        · rw [decide_eq_false e2, Bool.false_and, Bool.false_and]
    rw [e]
    exact key _ _
  · rw [if_neg h, qS_0]
    refine congrArg some (qS_ext fun i hi => ?_)
    unfold qgt pnb
    rw [decide_eq_false (show ¬ i = c + 6 by omega), decide_eq_false (show ¬ i = c + 1 - 2 * (c % 2) + 6 by omega)]
    simp
theorem cx_keeps {o : Nat} {I : mh_I} {L : mh_L} {K : Nat → Nat} {P : Nat → Bool} (hK : cK (o + 1) I K) (hb : bK K 6) (hP : L o 2 = qS P) {c : Nat} (hc : c < 48) : X1_keeps o (nI c) I L = some (pI (qkp K P c = true)) := by
  unfold X1_keeps
  have hk := hb c hc
  rw [px_ix hc (by decide), hK _ hc, hP, qS_has P hc]
  simp (disch := omega) only [pn_er, po_b, qI0]
  unfold qkp
  by_cases h : K c = 5
  · rw [if_pos h, h]; rfl
  · rw [if_neg h]
    have : (K c == 5) = false := by simpa using h
    rw [this]
    cases P c <;> rfl
/-! the reference's -/
def tN (k p : Nat) : Nat := (if qO k = true then 2 ^ p else 0) + (if qX k = true then 2 ^ pnb p else 0)
theorem tN_lt : ∀ k, k < 6 → ∀ p, p < 6 → tN k p < 64 := by decide
theorem tN_6 : ∀ k, k < 6 → ∀ p, p < 6 → (if nI k = (2 : Int32) then some ((1 : Int32) <<< ((nI p ^^^ (1 : Int32)) &&& 31)) else if nI k = (3 : Int32) then some (((1 : Int32) <<< (nI p &&& 31)) ||| ((1 : Int32) <<< ((nI p ^^^ (1 : Int32)) &&& 31))) else if nI k = (4 : Int32) then some (0 : Int32) else some ((1 : Int32) <<< (nI p &&& 31))) = some (nI (tN k p)) := by decide
theorem tN_bit : ∀ k, k < 6 → ∀ p, p < 6 → ∀ q, q < 6 → ((nI (tN k p) >>> (nI q &&& 31)) &&& (1 : Int32) = 1 ↔ (q = p ∧ qO k = true) ∨ (q = pnb p ∧ qX k = true)) := by decide
theorem cm_through {J : mh_I} {K : Nat → Nat} (hK : cK 1 J K) (hb : bK K 6) {c : Nat} (hc : c < 48) : X6_through (nI c) J = some (nI (tN (K c) (c % 6))) := by
  unfold X6_through
  simp (disch := omega) only [mh_b, pn_rm, px_ix]
  rw [hK _ hc]
  exact tN_6 _ (hb _ hc) _ (by omega)
theorem cm_gt {J : mh_I} {K : Nat → Nat} (hK : cK 1 J K) (hb : bK K 6) {y x : Nat} (hy : y < 48) (hx : x < 48) : X6_goesThrough (nI y) (nI x) J = some (pI (qgt K y x = true)) := by
  unfold X6_goesThrough
  simp (disch := omega) only [pn_dv, pn_al, pn_eq, pn_rm]
  rw [cm_through hK hb hy, po_b]
  have hk := hb y hy
  by_cases h : y / 6 = x / 6 + 1
  · rw [if_pos h]
    have hbt := tN_bit (K y) hk (y % 6) (by omega) (x % 6) (by omega)
    have e : ((x % 6 = y % 6 ∧ qO (K y) = true) ∨ (x % 6 = pnb (y % 6) ∧ qX (K y) = true)) ↔ qgt K y x = true := by
      unfold qgt
      rw [decide_eq_true hy]
      simp only [Bool.true_and, Bool.or_eq_true, Bool.and_eq_true, decide_eq_true_eq]
      have e1 : x % 6 = y % 6 ↔ y = x + 6 := by omega
      have e2 : x % 6 = pnb (y % 6) ↔ y = pnb x + 6 := by unfold pnb; omega
      rw [e1, e2]
    rw [e] at hbt
    unfold pI
    by_cases hq : qgt K y x = true
    · rw [if_pos hq, if_pos (hbt.mpr hq)]
    · rw [if_neg hq, if_neg (fun h => hq (hbt.mp h))]
  · rw [if_neg h]
    have : qgt K y x = false := by
      unfold qgt pnb
      rw [decide_eq_false (show ¬ y = x + 6 by omega), decide_eq_false (show ¬ y = x + 1 - 2 * (x % 2) + 6 by omega)]
      simp
    rw [this]; rfl
theorem cm_uppers {J : mh_I} {K : Nat → Nat} (hK : cK 1 J K) (hb : bK K 6) {c : Nat} (hc : c < 48) : X6_uppers (nI c) J = some (qS (fun y => qgt K y c)) := by
  unfold X6_uppers
  simp (disch := omega) only [mh_b, pn_dv, pn_al, pn_mr]
  have hlow : ∀ y, y < 6 * (c / 6) + 6 → qgt K y c = false := by
    intro y hy
    unfold qgt pnb
    rw [decide_eq_false (show ¬ y = c + 6 by omega), decide_eq_false (show ¬ y = c + 1 - 2 * (c % 2) + 6 by omega)]
    simp
  have hhigh : ∀ y, 6 * (c / 6) + 12 ≤ y → qgt K y c = false := by
    intro y hy
    unfold qgt pnb
    rw [decide_eq_false (show ¬ y = c + 6 by omega), decide_eq_false (show ¬ y = c + 1 - 2 * (c % 2) + 6 by omega)]
    simp
  refine pl_up (fun f j s => X6_uppers_l14 (nI c) J f s j) (min 48 (6 * (c / 6) + 12)) (fun r => r = some (qS (fun y => qgt K y c))) (fun j s => s = qS (fun y => decide (y < j) && qgt K y c)) ?_ ?_ mh_fuel (6 * (c / 6) + 6) (0 : Int64) (by omega) (by unfold mh_fuel; omega) ?_
  · intro f s hs
    show X6_uppers_l14 (nI c) J (f + 1) s (nI _) = _
    rw [X6_uppers_l14]
    have hfin : s = qS (fun y => qgt K y c) := by
      rw [hs]
      apply qS_ext
      intro i hi
      by_cases h : i < min 48 (6 * (c / 6) + 12)
      · rw [decide_eq_true h]; rfl
      · rw [hhigh i (by omega)]; simp
    simp (disch := omega) only [pn_dv, pn_al, pn_mr, pn_ll, pn_le]
    by_cases h : 48 ≤ min 48 (6 * (c / 6) + 12)
    · rw [if_pos h, hfin]
    · rw [if_neg h, if_pos (by omega), hfin]
  · intro f j s hj hs
    left
    refine ⟨qS (fun y => decide (y < j + 1) && qgt K y c), rfl, ?_⟩
    show X6_uppers_l14 (nI c) J (f + 1) s (nI j) = _
    rw [X6_uppers_l14, cm_gt hK hb (show j < 48 by omega) hc, po_b]
    simp (disch := omega) only [pn_dv, pn_al, pn_mr, pn_ll, pn_le, if_neg, mh_j, mh_b, qI0, qS_sh]
    rw [hs]
    cases h : qgt K j c
    · rw [if_pos rfl, qS_0, qS_or]
      refine congrArg (fun z => X6_uppers_l14 (nI c) J f z (nI (j + 1))) (qS_ext fun i hi => ?_)
      by_cases e : i = j
      · subst e; simp [h]
      · by_cases e2 : i < j
        · simp [e2, show i < j + 1 by omega]
        · simp [e2, show ¬ i < j + 1 by omega]
    · rw [if_neg (by decide), qS_or]
      refine congrArg (fun z => X6_uppers_l14 (nI c) J f z (nI (j + 1))) (qS_ext fun i hi => ?_)
      by_cases e : i = j
      · subst e; simp [h]
      · by_cases e2 : i < j
        · simp [e, e2, show i < j + 1 by omega]
        · simp [e, e2, show ¬ i < j + 1 by omega]
  · show (0 : Int64) = _
    rw [qS_0]
    apply qS_ext
    intro i hi
    by_cases e2 : i < 6 * (c / 6) + 6
    · rw [hlow i e2]; simp
    · rw [decide_eq_false e2]; rfl
theorem cm_keeps {J : mh_I} {K : Nat → Nat} {P : Nat → Bool} (hK : cK 1 J K) (hb : bK K 6) {c : Nat} (hP : J 3 c = nI (qb P c)) (hc : c < 48) : X6_keeps (nI c) J = some (pI (qkp K P c = true)) := by
  unfold X6_keeps
  have hk := hb c hc
  rw [px_ix hc (by decide), hK _ hc, px_ix hc (by decide), hP]
  unfold qkp qb
  by_cases h : K c = 5
  · rw [if_pos (by rw [h]; rfl), h]; rfl
  · rw [if_neg (by rw [show (5 : Int32) = nI 5 from rfl, nI_eq (by omega) (by decide)]; exact h)]
    have : (K c == 5) = false := by simpa using h
    rw [this]
    cases P c <;> rfl
