/-! PURE: counts, slip, taken, slack -/
theorem fa_or (a b : Nat) : nI a ||| nI b = nI (a ||| b) := by
  apply Int32.toBitVec_inj.1
  show BitVec.ofNat 32 a ||| BitVec.ofNat 32 b = BitVec.ofNat 32 (a ||| b)
  exact (BitVec.ofNat_or ..).symm
def ob (K : Nat → Nat) (c : Nat) : Bool := decide (c < 42) && !(ov0 K c)
theorem ob_ok {K : Nat → Nat} {c : Nat} : (∀ i, i < 48 → qgt K i c = false) = (ob K c = false) := by
  unfold ob
  by_cases h : c < 42
  · rw [ov0_ok h, decide_eq_true h]
    cases ov0 K c <;> simp
  · rw [decide_eq_false h]
    refine propext ⟨fun _ => rfl, fun _ i hi => ?_⟩
    unfold qgt pnb
    rw [decide_eq_false (show ¬ i = c + 6 by omega), decide_eq_false (show ¬ i = c + 1 - 2 * (c % 2) + 6 by omega)]
    simp
def uv (t : Nat) : Bool := decide (t = 0) || !decide (t &&& (t - 1) = 0)
theorem uv_5 : ∀ t, t < 64 → ∃ v, v ≤ 6 ∧ J6_bitCount_0f7a4 (nI t) = some (nI v) ∧ (v = 1 ↔ uv t = false) ∧ v = qC (fun i => t.testBit i) 6 := by
  have h : ∀ t, t < 64 → qC (fun i => t.testBit i) 6 ≤ 6 ∧ J6_bitCount_0f7a4 (nI t) = some (nI (qC (fun i => t.testBit i) 6)) ∧ (qC (fun i => t.testBit i) 6 = 1 ↔ uv t = false) := by decide +kernel
  exact fun t ht => ⟨_, (h t ht).1, (h t ht).2.1, (h t ht).2.2, rfl⟩
theorem uv_6 : ∀ t, t < 64 → 0 < t → (nI t &&& (nI t - (1 : Int32)) = 0) = (t &&& (t - 1) = 0) := by
  have h : ∀ t, t < 64 → 0 < t → decide (nI t &&& (nI t - (1 : Int32)) = 0) = decide (t &&& (t - 1) = 0) := by decide +kernel
  intro t ht h0
  have := h t ht h0
  by_cases c : t &&& (t - 1) = 0
  · rw [decide_eq_true c] at this
    exact propext ⟨fun _ => c, fun _ => of_decide_eq_true this⟩
  · rw [decide_eq_false c] at this
    exact propext ⟨fun hh => absurd hh (of_decide_eq_false this), fun hh => absurd hh c⟩
def blN (K : Nat → Nat) (r : Nat) : Nat → Nat
  | 0 => 0
  | j + 1 => blN K r j ||| (if r = 0 then 0 else tN (K (6 * r + j)) j)
theorem blN_lt {K : Nat → Nat} (hb : bK K 6) {r : Nat} (hr : r < 8) : ∀ j, j ≤ 6 → blN K r j < 2 ^ 6 := by
  intro j
  induction j with
  | zero => intro _; exact Nat.two_pow_pos 6
  | succ j ih =>
    intro hj
    rw [blN]
    refine Nat.or_lt_two_pow (ih (by omega)) ?_
    split
    · exact Nat.two_pow_pos 6
    · exact tN_lt _ (hb _ (by omega)) j (by omega)
def tst (K : Nat → Nat) (w c : Nat) : Bool := if w = 0 then ob K c else uv (tN (K c) (c % 6))
theorem cm_countIn {J : mh_I} {K : Nat → Nat} (g1 : cK 1 J K) (hb : bK K 6) {r w : Nat} (hr : r < 8) (hw : w ≤ 2) : X6_countIn (nI r) (nI w) J = (if w = 1 then X6_bitsOf ((nI (blN K r 6)).toInt64) else some (nI (qC (fun i => tst K w (6 * r + i)) 6))) := by
  obtain ⟨F, hF, eF⟩ := fuel_ex
  unfold X6_countIn
  rw [eF, pj_b]
  simp only [pn_mr]
  have hk : ∀ k : Int32 → Int32 → Option Int32, X6_countIn_l11 (nI r) (nI w) J k F (0 : Int32) (0 : Int32) (nI (6 * r)) = k (nI (qC (fun i => tst K w (6 * r + i)) 6)) (nI (blN K r 6)) := by
    intro k
    refine pl_2 (fun f j (s : Int32 × Int32) => X6_countIn_l11 (nI r) (nI w) J k f s.1 s.2 (nI (6 * r + j))) (fun (_ _ : Nat) (_ : Unit) => (none : Option Unit)) 6 (fun a _ => a = k (nI (qC (fun i => tst K w (6 * r + i)) 6)) (nI (blN K r 6))) (fun j s _ => s.1 = nI (qC (fun i => tst K w (6 * r + i)) j) ∧ s.2 = nI (blN K r j)) ?_ ?_ F 0 (0, 0) () (by omega) (by omega) ⟨rfl, rfl⟩
    · rintro f ⟨s1, s2⟩ _ ⟨e1, e2⟩
      dsimp only at e1 e2 ⊢
      rw [X6_countIn_l11]
      simp (disch := omega) only [pn_mr, pn_al, pn_le, if_pos]
      rw [e1, e2]
    · rintro f j ⟨s1, s2⟩ _ hj ⟨e1, e2⟩
      dsimp only at e1 e2
      left
      refine ⟨(nI (qC (fun i => tst K w (6 * r + i)) (j + 1)), nI (blN K r (j + 1))), (), ⟨rfl, rfl⟩, ?_, rfl⟩
      dsimp only
      have hc : 6 * r + j < 48 := by omega
      have hm : (6 * r + j) % 6 = j := by omega
      have hl := tN_lt (K (6 * r + j)) (hb _ hc) j (by omega)
      rw [X6_countIn_l11, cm_through g1 hb hc, cm_uppers g1 hb hc, hm]
      simp (disch := omega) only [pn_mr, pn_al, pn_le, if_neg, po_b, pj_j, pj_b, pn_er, qS_z, ob_ok]
      rw [e1, e2, qC, blN]
      have hbl : ∀ (T : Int32 → Option Int32), (if r = 0 then T (nI (blN K r j) ||| 0) else T (nI (blN K r j) ||| nI (tN (K (6 * r + j)) j))) = T (nI (blN K r j ||| if r = 0 then 0 else tN (K (6 * r + j)) j)) := by
        intro T
        by_cases h0 : r = 0
        · rw [if_pos h0, if_pos h0, Int32.or_zero, Nat.or_zero]
        · rw [if_neg h0, if_neg h0, fa_or]
      have htst : tst K w (6 * r + j) = if w = 0 then ob K (6 * r + j) else uv (tN (K (6 * r + j)) j) := by
        unfold tst
        rw [hm]
      rw [htst]
      generalize hB : (nI (blN K r j ||| if r = 0 then 0 else tN (K (6 * r + j)) j)) = B
      have hfin : ∀ z : Int32, (if w = 0 then (if ob K (6 * r + j) = false then X6_countIn_l11 (nI r) (nI w) J k f (nI (qC (fun i => tst K w (6 * r + i)) j) + 0) z (nI (6 * r + j + 1)) else X6_countIn_l11 (nI r) (nI w) J k f (nI (qC (fun i => tst K w (6 * r + i)) j + 1)) z (nI (6 * r + j + 1))) else if tN (K (6 * r + j)) j = 0 then X6_countIn_l11 (nI r) (nI w) J k f (nI (qC (fun i => tst K w (6 * r + i)) j + 1)) z (nI (6 * r + j + 1)) else if nI (tN (K (6 * r + j)) j) &&& (nI (tN (K (6 * r + j)) j) - (1 : Int32)) = 0 then X6_countIn_l11 (nI r) (nI w) J k f (nI (qC (fun i => tst K w (6 * r + i)) j) + 0) z (nI (6 * r + j + 1)) else X6_countIn_l11 (nI r) (nI w) J k f (nI (qC (fun i => tst K w (6 * r + i)) j + 1)) z (nI (6 * r + j + 1))) = X6_countIn_l11 (nI r) (nI w) J k f (nI (qC (fun i => tst K w (6 * r + i)) j + if (if w = 0 then ob K (6 * r + j) else uv (tN (K (6 * r + j)) j)) = true then 1 else 0)) z (nI (6 * r + (j + 1))) := by
        intro z
        by_cases h0 : w = 0
        · rw [if_pos h0, if_pos h0]
          cases ob K (6 * r + j)
          · rw [if_pos rfl, if_neg (by decide), Int32.add_zero]; rfl
          · rw [if_neg (by decide), if_pos rfl]; rfl
        · rw [if_neg h0, if_neg h0]
          unfold uv
          by_cases t0 : tN (K (6 * r + j)) j = 0
          · rw [if_pos t0, decide_eq_true t0, Bool.true_or, if_pos rfl]; rfl
          · rw [if_neg t0, decide_eq_false t0, Bool.false_or]
            simp only [uv_6 _ hl (by omega)]
            by_cases t1 : tN (K (6 * r + j)) j &&& (tN (K (6 * r + j)) j - 1) = 0
            · rw [if_pos t1, decide_eq_true t1, if_neg (by decide), Int32.add_zero]; rfl
            · rw [if_neg t1, decide_eq_false t1, if_pos (by decide)]; rfl
      simp only [pn_al] at hfin ⊢
      by_cases h0 : r = 0
      · rw [if_pos h0] at hB
        rw [if_pos h0]
        rw [← hB, Nat.or_zero, Int32.or_zero]
        exact hfin _
      · rw [if_neg h0] at hB
        rw [if_neg h0, fa_or]
        rw [← hB]
        exact hfin _
  rw [hk]
  by_cases h1 : w = 1
  · subst h1
    rw [if_pos (by decide), if_pos rfl]
    exact Option.bind_fun_some _
  · rw [if_neg (show ¬ nI w = (1 : Int32) from fun e => h1 ((nI_eq (b := 1) (by omega) (by decide)).mp e)), if_neg h1]
theorem bits64 : ∀ t, t < 64 → pS (fun i => t.testBit i) 48 = t ∧ qC (fun i => t.testBit i) 48 = qC (fun i => t.testBit i) 6 := by decide +kernel
theorem cm_bits {t : Nat} (ht : t < 64) : X6_bitsOf ((nI t).toInt64) = some (nI (qC (fun i => t.testBit i) 6)) := by
  have e : (nI t).toInt64 = qS (fun i => t.testBit i) := by
    rw [nI_l (by omega)]
    unfold qS
    rw [(bits64 t ht).1]
  rw [e, qS_bitsOf, (bits64 t ht).2]
theorem cx_placesUnder {I : mh_I} {K : Nat → Nat} (h1 : cK 2 I K) (hb : bK K 6) {r : Nat} (hr : r < 8) : X5_placesUnder (nI r) I = some (nI (qC (fun i => (blN K r 6).testBit i) 6)) := by
  obtain ⟨F, hF, eF⟩ := fuel_ex
  unfold X5_placesUnder
  rw [eF]
  simp (disch := omega) only [pn_er]
  by_cases h0 : r = 0
  · subst h0
    rw [if_pos rfl]
    have : blN K 0 6 = 0 := by
      simp [blN]
    rw [this]
    rfl
  · rw [if_neg h0]
    have hk : ∀ k : Int32 → Option Int32, X5_placesUnder_l10 (nI r) I k F (0 : Int32) (0 : Int32) = k (nI (blN K r 6)) := by
      intro k
      refine pl_up (fun f j s => X5_placesUnder_l10 (nI r) I k f s j) 6 (fun a => a = k (nI (blN K r 6))) (fun j s => s = nI (blN K r j)) ?_ ?_ F 0 0 (by omega) (by omega) rfl
      · intro f s hs
        show X5_placesUnder_l10 (nI r) I k (f + 1) s (nI 6) = _
        rw [X5_placesUnder_l10, if_pos (by decide), hs]
      · intro f j s hj hs
        left
        refine ⟨_, rfl, ?_⟩
        show X5_placesUnder_l10 (nI r) I k (f + 1) s (nI j) = X5_placesUnder_l10 (nI r) I k f (nI (blN K r (j + 1))) (nI (j + 1))
        rw [X5_placesUnder_l10]
        simp (disch := omega) only [pn_ll, if_neg, pn_ml, nI_add, pj_b, pn_al]
        rw [show r * 6 + j = 6 * r + j by omega, cx_places (o := 1) h1 hb (show 6 * r + j < 48 by omega), po_b, hs, fa_or, show (6 * r + j) % 6 = j by omega, blN, if_neg h0]
    rw [hk]
    obtain ⟨v, -, v1, -, v2⟩ := uv_5 (blN K r 6) (blN_lt hb hr 6 (Nat.le_refl 6))
    rw [v1, po_b, v2]
theorem r_counts : RS_counts Rel := by
  intro T I L J a1 a2 h
  obtain ⟨F, hF, eF⟩ := fuel_ex
  obtain ⟨-, ⟨K, M, P, N, u, n, hc1, -⟩, -⟩ := id h
  obtain ⟨⟨h1, h2, h3, h4, h5, h6, h7⟩, ⟨g1, g2, g3, g4, g5⟩, k1, k2, k3, k4, k5⟩ := hc1
  unfold X5_counts X6_counts
  rcases pa_row a1 with ⟨e5, e6⟩ | ⟨r, hr, rfl, e5, e6⟩
  · simp only [e5, e6, po_b, if_true]
    exact ⟨_, _, rfl, rfl, rfl, h⟩
  rcases pa_rng a2 2 (n := 2) (by decide) with ⟨-, f6, hno⟩ | ⟨w, hw, rfl, -, f6⟩
  · have n0 : ¬ a2 = 0 := fun e => hno (by rw [e]; decide)
    have n1 : ¬ a2 = 1 := fun e => hno (by rw [e]; decide)
    have n2 : ¬ a2 = 2 := fun e => hno (by rw [e]; decide)
    simp only [e5, e6, f6, po_b, if_true, pz_10, if_false, n0, n1, n2]
    exact ⟨_, _, rfl, rfl, rfl, h⟩
  simp only [e5, e6, f6, po_b, pz_10, if_false, cm_countIn g1 h2 hr hw]
  rcases (show w = 0 ∨ w = 1 ∨ w = 2 by omega) with rfl | rfl | rfl
  · rw [if_pos (by decide), if_neg (by decide), po_b]
    have hl : X5_borneOf (nI r) I = some (nI (qC (fun i => tst K 0 (6 * r + i)) 6)) := by
      unfold X5_borneOf
      rw [eF]
      refine pl_up (fun f j s => X5_borneOf_l4 (nI r) I f s j) 6 (fun a => a = some (nI (qC (fun i => tst K 0 (6 * r + i)) 6))) (fun j s => s = nI (qC (fun i => tst K 0 (6 * r + i)) j)) ?_ ?_ F 0 0 (by omega) (by omega) rfl
      · intro f s hs
        show X5_borneOf_l4 (nI r) I (f + 1) s (nI 6) = _
        rw [X5_borneOf_l4, if_pos (by decide), hs]
      · intro f j s hj hs
        left
        refine ⟨_, rfl, ?_⟩
        show X5_borneOf_l4 (nI r) I (f + 1) s (nI j) = X5_borneOf_l4 (nI r) I f (nI (qC (fun i => tst K 0 (6 * r + i)) (j + 1))) (nI (j + 1))
        rw [X5_borneOf_l4]
        simp (disch := omega) only [pn_ll, if_neg, pn_ml, nI_add, pj_b, pj_j, pn_al]
        rw [show r * 6 + j = 6 * r + j by omega, cx_over (o := 1) h1 h2 (show 6 * r + j < 48 by omega), po_b, hs, qC]
        simp only [qS_z, ob_ok, pn_al]
        have : tst K 0 (6 * r + j) = ob K (6 * r + j) := if_pos rfl
        rw [this]
        cases ob K (6 * r + j)
        · rw [if_pos rfl, if_neg (by decide)]; rfl
        · rw [if_neg (by decide), if_pos rfl]
    rw [hl, po_b]
    exact ⟨_, _, rfl, rfl, rfl, h⟩
  · rw [if_neg (by decide), if_pos (by decide), if_pos rfl, cx_placesUnder h1 h2 hr, po_b, cm_bits (blN_lt h2 hr 6 (Nat.le_refl 6)), po_b]
    exact ⟨_, _, rfl, rfl, rfl, h⟩
  · rw [if_neg (by decide), if_neg (by decide), if_pos (by decide), if_neg (by decide), po_b]
    have hl : X5_unevenOf (nI r) I = some (nI (qC (fun i => tst K 2 (6 * r + i)) 6)) := by
      unfold X5_unevenOf
      rw [eF]
      refine pl_up (fun f j s => X5_unevenOf_l4 (nI r) I f s j) 6 (fun a => a = some (nI (qC (fun i => tst K 2 (6 * r + i)) 6))) (fun j s => s = nI (qC (fun i => tst K 2 (6 * r + i)) j)) ?_ ?_ F 0 0 (by omega) (by omega) rfl
      · intro f s hs
        show X5_unevenOf_l4 (nI r) I (f + 1) s (nI 6) = _
        rw [X5_unevenOf_l4, if_pos (by decide), hs]
      · intro f j s hj hs
        left
        refine ⟨_, rfl, ?_⟩
        show X5_unevenOf_l4 (nI r) I (f + 1) s (nI j) = X5_unevenOf_l4 (nI r) I f (nI (qC (fun i => tst K 2 (6 * r + i)) (j + 1))) (nI (j + 1))
        have hc : 6 * r + j < 48 := by omega
        obtain ⟨v, v0, v1, v2, -⟩ := uv_5 (tN (K (6 * r + j)) j) (tN_lt _ (h2 _ hc) j (by omega))
        rw [X5_unevenOf_l4]
        simp (disch := omega) only [pn_ll, if_neg, pn_ml, nI_add, pj_b, pj_j, pn_al]
        rw [show r * 6 + j = 6 * r + j by omega, cx_places (o := 1) h1 h2 hc, po_b, show (6 * r + j) % 6 = j by omega, v1, po_b, hs, qC]
        simp (disch := omega) only [pn_er, pn_al]
        have : tst K 2 (6 * r + j) = uv (tN (K (6 * r + j)) j) := by
          unfold tst
          rw [if_neg (by decide), show (6 * r + j) % 6 = j by omega]
        rw [this]
        cases huv : uv (tN (K (6 * r + j)) j)
        · rw [if_pos (v2.mpr huv), if_neg (by decide)]; rfl
        · rw [if_neg (fun e => by rw [v2.mp e] at huv; cases huv), if_pos rfl]
    rw [hl, po_b]
    exact ⟨_, _, rfl, rfl, rfl, h⟩
theorem r_slip : RS_slip Rel := by
  intro T I L J a1 h
  obtain ⟨F, hF, eF⟩ := fuel_ex
  obtain ⟨-, ⟨K, M, P, N, u, n, hc1, -⟩, -, hsh, -⟩ := id h
  obtain ⟨⟨h1, h2, h3, h4, h5, h6, h7⟩, ⟨g1, g2, g3, g4, g5⟩, k1, k2, k3, k4, k5⟩ := hc1
  unfold X5_slip X6_slip
  rw [eF]
  rcases p_sheet hsh a1 (n := 8) (by decide) with ⟨r, hr, e5, e6⟩ | ⟨s, hs, rfl, e5, e6, hz⟩
  · have e5 : X5_sheetRefusal a1 (8 : Int32) I = some r := e5
    have e6 : X6_sheetWrong a1 (8 : Int32) J = some r := e6
    simp only [e5, e6, po_b, hr, if_false]
    exact ⟨_, _, rfl, rfl, rfl, h⟩
  have e5 : X5_sheetRefusal (nI s) (8 : Int32) I = some 0 := e5
  have e6 : X6_sheetWrong (nI s) (8 : Int32) J = some 0 := e6
  have hcell := (hsh s hs).2.2.2
  rw [e5, po_b, if_pos rfl, e6, po_b, if_pos rfl]
  refine pl_2 (fun f j (_ : Unit) => X5_slip_l16 (nI s) I f (nI (j + 1))) (fun f j (_ : Unit) => X6_slip_l16 (nI s) J f (nI (j + 1))) 7 (fun a b => ∃ q r, a = some q ∧ b = some r ∧ q = r ∧ Rel T I L J) (fun _ _ _ => True) ?_ ?_ F 0 () () (by omega) (by omega) trivial
  · intro f _ _ _
    rw [X5_slip_l16, X6_slip_l16, if_pos (by decide), if_pos (by decide)]
    exact ⟨_, _, rfl, rfl, rfl, h⟩
  · intro f j _ _ hj _
    have hC := cm_countIn g1 h2 (r := j + 1) (w := 1) (by omega) (by decide)
    rw [if_pos rfl, cm_bits (blN_lt h2 (by omega) 6 (Nat.le_refl 6))] at hC
    have hC : X6_countIn (nI (j + 1)) (1 : Int32) J = _ := hC
    rw [X5_slip_l16, X6_slip_l16, cx_placesUnder h1 h2 (show j + 1 < 8 by omega), hC]
    simp (disch := omega) only [pn_ll, if_neg, px_ix, pn_mr, nI_add, pj_b, pn_al, po_b]
    rw [hcell (j + 1) (by omega), show 38 + 2 * s + 1 = 39 + 2 * s by omega]
    by_cases hq : I (39 + 2 * s) (j + 1) = nI (qC (fun i => (blN K (j + 1) 6).testBit i) 6)
    · left
      exact ⟨(), (), trivial, by rw [if_pos hq], by rw [if_pos hq]⟩
    · right
      rw [if_neg hq, if_neg hq]
      exact ⟨_, _, rfl, rfl, rfl, h⟩
