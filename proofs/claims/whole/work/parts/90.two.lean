/-! PURE: two -/
theorem p_went {J : mh_I} {R : Nat → Nat} (hm : ∀ c, c < 48 → J 17 c = dI (R c)) (hl : ∀ i, i < 48 → R i ≤ 100) : X6_went J = some (qS (fun i => decide (0 < R i))) := by
  obtain ⟨F, hF, eF⟩ := fuel_ex
  unfold X6_went
  rw [eF]
  refine pl_up (fun f j s => X6_went_l4 J f s j) 48 (fun r => r = some (qS (fun i => decide (0 < R i)))) (fun j s => s = qS (fun i => decide (i < j) && decide (0 < R i))) ?_ ?_ F 0 0 (by omega) (by omega) qS_sI
  · intro f s hs
    show X6_went_l4 J (f + 1) s (nI 48) = _
    rw [X6_went_l4, if_pos (by decide), hs, qS_sE]
  · intro f j s hj hs
    left
    refine ⟨_, rfl, ?_⟩
    have hle := hl j hj
    show X6_went_l4 J (f + 1) s (nI j) = X6_went_l4 J f (qS (fun i => decide (i < j + 1) && decide (0 < R i))) (nI (j + 1))
    rw [X6_went_l4]
    simp (disch := omega) only [pn_ll, if_neg, px_ix, pj_j, pj_b, pn_al, hm, dIm, qS_sh]
    rw [hs]
    by_cases hr : R j = 0
    · rw [if_pos hr, Int64.or_zero, qS_s0 (by rw [hr]; rfl)]
    · rw [if_neg hr, qS_s1 (P := fun i => decide (0 < R i)) (decide_eq_true (by omega))]
theorem p_both {I : mh_I} {L : mh_L} {J : mh_I} {K M : Nat → Nat} {P N : Nat → Bool} {u : Nat} {e o : Nat → Nat} (h : R2 I L J K M P N u e o) {a b p : Nat} (ha : a < 48) (hb : b < 48) (hp : p < 100) (hL : ∀ c, c < 48 → L 13 c = qS (fun i => decide (0 < RR K P (rbf e o K M N) c p i))) : ∃ m I' L' J', m ≤ 48 ∧ X5_dropBoth (nI a) (nI b) (nI p) I L = some (nI m, I', L') ∧ X6_runs (((1 : Int64) <<< ((nI a).toInt64 &&& 63)) ||| ((1 : Int64) <<< ((nI b).toInt64 &&& 63))) (nI p) J = some J' ∧ J' 0 29 = nI m ∧ xx I I' ∧ ll L L' ∧ (∀ c, L' 13 c = L 13 c) ∧ jj J J' := by
  have hu : u < 6 := h.1.2.2.2.2.2.2.1
  obtain ⟨R, hr⟩ := isRun_ex K (qkp K P) (fun i => decide (i = a) || decide (i = b)) p (rbf e o K M N)
  obtain ⟨⟨I', L', d1, d2, d3, d4⟩, J', e1, e2, e3⟩ := p_runD h _ hp hr
  have eD : ((1 : Int64) <<< ((nI a).toInt64 &&& 63)) ||| ((1 : Int64) <<< ((nI b).toInt64 &&& 63)) = qS (fun i => decide (i = a) || decide (i = b)) := by
    rw [qS_sh ha, qS_sh hb, qS_or]
  unfold X5_dropBoth
  simp (disch := omega) only [pn_rm, pn_dv, pn_eq]
  by_cases hab : a % 6 / 2 = b % 6 / 2
  · refine ⟨gn R, I', L', J', gn_le R, ?_, by rw [eD]; exact e1, e2.2, d3, ll_l d4, fun c => d4 13 c (by decide), e3⟩
    rw [if_pos hab, X5_law_ok h.2.2 hu, po_b, qS_bit ha, po_b, qS_bit hb, po_b, qS_or, d1, po_b]
  · refine ⟨gn R, I, L, J', gn_le R, ?_, by rw [eD]; exact e1, e2.2, xx_r I, ll_r L, fun _ => rfl, e3⟩
    rw [if_neg hab, px_ix ha (by decide), px_ix hb (by decide), hL a ha, hL b hb, qS_or, qS_bitCount, po_b]
    have : qC (fun i => decide (0 < RR K P (rbf e o K M N) a p i) || decide (0 < RR K P (rbf e o K M N) b p i)) 48 = gn R := (qC_ext (fun i hi => two_un hr (RR_run K P (rbf e o K M N) a p) (RR_run K P (rbf e o K M N) b p) hab i hi)).symm
    rw [this]
/-- best so far, in both -/
def twW (z : Prop) (x1 x2 b : Int32) : Prop := (z ∧ x1 = 0 ∧ x2 = 1 ∧ b = 0) ∨ ∃ x y, x < 48 ∧ y < 48 ∧ x1 = nI x ∧ x2 = nI y ∧ b = nI (100 * x + y)
theorem p_inner {I0 : mh_I} {L0 : mh_L} {J0 : mh_I} {K M : Nat → Nat} {P N : Nat → Bool} {u : Nat} {e o : Nat → Nat} (h0 : R2 I0 L0 J0 K M P N u e o) {a p F : Nat} (ha : a < 48) (hp : p < 100) (hL0 : ∀ c, c < 48 → L0 13 c = qS (fun i => decide (0 < RR K P (rbf e o K M N) c p i))) (hF : 1000 < F) (k5 : Int32 → Int32 → Int32 → mh_I → mh_L → Option (Int32 × mh_I × mh_L)) (k6 : Int32 → Int32 → mh_I → Option (Int32 × mh_I)) {x1 x2 m b : Int32} {I : mh_I} {L : mh_L} {J : mh_I} (hw : twW (a = 0) x1 x2 b) (hm : a = 0 ∧ m = -1 ∨ ¬ a = 0) (hI : xx I0 I) (hL : ll L0 L) (hL3 : ∀ c, L 13 c = L0 13 c) (hJ : jj J0 J) : ∃ y1 y2 m' b' I' L' J', X5_two_l77 (nI p) (nI a) k5 F x1 x2 m (nI (a + 1)) I L = k5 y1 y2 m' I' L' ∧ X6_two__l40 (nI p) (nI a) k6 F b m (nI (a + 1)) J = k6 b' m' J' ∧ twW (a + 1 = 48 ∧ a = 0) y1 y2 b' ∧ xx I0 I' ∧ ll L0 L' ∧ (∀ c, L' 13 c = L0 13 c) ∧ jj J0 J' := by
  refine pl_2 (fun f j (x : Int32 × Int32 × Int32 × mh_I × mh_L) => X5_two_l77 (nI p) (nI a) k5 f x.1 x.2.1 x.2.2.1 (nI j) x.2.2.2.1 x.2.2.2.2) (fun f j (y : Int32 × Int32 × mh_I) => X6_two__l40 (nI p) (nI a) k6 f y.1 y.2.1 (nI j) y.2.2) 48 (fun r s => ∃ y1 y2 m' b' I' L' J', r = k5 y1 y2 m' I' L' ∧ s = k6 b' m' J' ∧ twW (a + 1 = 48 ∧ a = 0) y1 y2 b' ∧ xx I0 I' ∧ ll L0 L' ∧ (∀ c, L' 13 c = L0 13 c) ∧ jj J0 J') (fun j x y => twW (a + 1 = j ∧ a = 0) x.1 x.2.1 y.1 ∧ (a + 1 ≤ j ∧ (a = 0 ∧ j = 1 → x.2.2.1 = -1)) ∧ x.2.2.1 = y.2.1 ∧ xx I0 x.2.2.2.1 ∧ ll L0 x.2.2.2.2 ∧ (∀ c, x.2.2.2.2 13 c = L0 13 c) ∧ jj J0 y.2.2) ?_ ?_ F (a + 1) (x1, x2, m, I, L) (b, m, J) (by omega) (by omega) ⟨?_, ?_, rfl, hI, hL, hL3, hJ⟩
  · rintro f ⟨x1, x2, m, I, L⟩ ⟨b, m', J⟩ ⟨w1, -, w2, w3, w4, w5, w6⟩
    dsimp only at w1 w2 w3 w4 w5 w6
    subst w2
    dsimp only
    rw [X5_two_l77, X6_two__l40, if_pos (show (48 : Int32) ≤ nI 48 by decide), if_pos (show (48 : Int32) ≤ nI 48 by decide)]
    exact ⟨_, _, _, _, _, _, _, rfl, rfl, w1, w3, w4, w5, w6⟩
  · rintro f j ⟨x1, x2, m, I, L⟩ ⟨b, m', J⟩ hj ⟨w1, ⟨wj, wm⟩, w2, w3, w4, w5, w6⟩
    dsimp only at w1 wm w2 w3 w4 w5 w6
    subst w2
    left
    obtain ⟨v, I', L', J', v0, v1, v2, v3, v4, v5, v6, v7⟩ := p_both (R2_fr h0 w3 w4 w6) ha hj hp (fun c hc => (w5 c).trans (hL0 c hc))
    dsimp only
    rw [X5_two_l77, X6_two__l40, v1, v2]
    simp (disch := omega) only [pn_ll, if_neg, po_b, pj_j, pj_b, pn_al, v3, pn_mr, nI_add]
    by_cases hc : nI v ≤ m
    · have hz : ¬ (a + 1 = j ∧ a = 0) := by
        intro hz
        have hm1 : m = -1 := wm (by omega)
        rw [hm1] at hc
        have h3 := Int32.le_iff_toInt_le.mp hc
        rw [nI_toInt (by omega), show (-1 : Int32).toInt = -1 by decide] at h3
        omega
      refine ⟨(x1, x2, m, I', L'), (b, m, J'), ⟨?_, ⟨by omega, fun h => by omega⟩, rfl, xx_t w3 v4, ll_t w4 v5, fun c => (v6 c).trans (w5 c), jj_t w6 v7⟩, ?_, ?_⟩
      · rcases w1 with ⟨h1, -⟩ | h1
        · exact absurd h1 hz
        · exact .inr h1
      · simp only [hc, if_true]
      · simp only [hc, if_true]
    · refine ⟨(nI a, nI j, nI v, I', L'), (nI (100 * a + j), nI v, J'), ⟨.inr ⟨a, j, ha, hj, rfl, rfl, rfl⟩, ⟨by omega, fun h => by omega⟩, rfl, xx_t w3 v4, ll_t w4 v5, fun c => (v6 c).trans (w5 c), jj_t w6 v7⟩, ?_, ?_⟩
      · simp only [hc, if_false]
      · simp only [hc, if_false]
  · rcases hw with ⟨h1, h2⟩ | h1
    · exact .inl ⟨⟨rfl, h1⟩, h2⟩
    · exact .inr h1
  · refine ⟨Nat.le_refl _, fun h => ?_⟩
    rcases hm with ⟨-, h2⟩ | h2
    · exact h2
    · exact absurd h.1 h2
theorem r_two : RS_two Rel := by
  intro T I L J a1 a2 h
  obtain ⟨F, hF, eF⟩ := fuel_ex
  unfold X5_two X6_two_
  rw [eF]
  rcases pa_pull a1 with ⟨h5, h6⟩ | ⟨p, hp, rfl, h5, h6⟩
  · simp only [h5, h6, po_b, if_true]
    exact ⟨_, _, rfl, rfl, rfl, h⟩
  rcases pa_rng a2 2 (n := 2) (by decide) with ⟨g5, g6, -⟩ | ⟨w, hw, rfl, g5, g6⟩
  · simp only [h5, h6, g5, g6, po_b, if_true, pz_10, if_false]
    exact ⟨_, _, rfl, rfl, rfl, h⟩
  obtain ⟨-, ⟨K, M, P, N, u, n, hc1, -⟩, -⟩ := id h
  obtain ⟨e, o, h2⟩ := R2_of hc1
  simp only [h5, h6, g5, g6, po_b, pz_10, if_false]
  have hA : ∀ k : mh_I → mh_L → Option (Int32 × mh_I × mh_L), ∃ I1 L1, X5_two_l21 (nI p) k F (0 : Int32) I L = k I1 L1 ∧ xx I I1 ∧ ll L L1 ∧ (∀ c, c < 48 → L1 13 c = qS (fun i => decide (0 < RR K P (rbf e o K M N) c p i))) := by
    intro k
    refine pl_up (fun f j (s : mh_I × mh_L) => X5_two_l21 (nI p) k f j s.1 s.2) 48 (fun r => ∃ I1 L1, r = k I1 L1 ∧ xx I I1 ∧ ll L L1 ∧ (∀ c, c < 48 → L1 13 c = qS (fun i => decide (0 < RR K P (rbf e o K M N) c p i)))) (fun j s => xx I s.1 ∧ ll L s.2 ∧ (∀ c, c < j → s.2 13 c = qS (fun i => decide (0 < RR K P (rbf e o K M N) c p i)))) ?_ ?_ F 0 (I, L) (by omega) (by omega) ⟨xx_r I, ll_r L, fun c hc => absurd hc (Nat.not_lt_zero c)⟩
    · rintro f ⟨I1, L1⟩ ⟨w1, w2, w3⟩
      refine ⟨I1, L1, ?_, w1, w2, w3⟩
      show X5_two_l21 (nI p) k (f + 1) (nI 48) I1 L1 = _
      rw [X5_two_l21, if_pos (by decide)]
    · rintro f j ⟨I1, L1⟩ hj ⟨w1, w2, w3⟩
      dsimp only at w1 w2 w3
      left
      have h2' := R2_fr h2 w1 w2 (jj_r J)
      obtain ⟨I', L', a1, a2, a3, a4, a5, a6⟩ := cx_run (H := fun _ => false) h2'.1 hp (isRun_0 (RR_run K P (rbf e o K M N) j p))
      have hu : u < 6 := h2.1.2.2.2.2.2.2.1
      refine ⟨(I', mh_ul L' 13 j (L' 10 1)), ⟨xx_t w1 (xx_x hu a5), fun b k hb hb2 => ?_, fun c hc => ?_⟩, ?_⟩
      · show mh_ul L' 13 j (L' 10 1) b k = L b k
        rw [pul_a hb2, a6 b k hb, w2 b k hb hb2]
      · show mh_ul L' 13 j (L' 10 1) 13 c = _
        by_cases ec : c = j
        · subst ec; rw [pul_s, a3]
        · rw [pul_k ec, a6 13 c (by decide), w3 c (by omega)]
      · show X5_two_l21 (nI p) k (f + 1) (nI j) I1 L1 = _
        rw [X5_two_l21]
        have hd : X5_drop (nI j) (nI p) I1 L1 = some (nI (gn (RR K P (rbf e o K M N) j p)), I', L') := by
          unfold X5_drop
          rw [X5_law_ok h2'.2.2 hu, po_b, qS_bit hj, po_b, qS_0, a1]
          rfl
        simp (disch := omega) only [pn_ll, if_neg, hd, po_b, px_ix, pj_b, pn_al]
  obtain ⟨I1, L1, hA1, w1, w2, w3⟩ := hA _
  rw [hA1]
  have h21 := R2_fr h2 w1 w2 (jj_r J)
  have hrel1 := Rel_fr h w1 w2 (jj_r J)
  refine pl_2 (fun f j (x : Int32 × Int32 × Int32 × mh_I × mh_L) => X5_two_l64 (nI p) _ f x.1 x.2.1 x.2.2.1 (nI j) x.2.2.2.1 x.2.2.2.2) (fun f j (y : Int32 × Int32 × mh_I) => X6_two__l27 (nI p) _ f y.1 y.2.1 (nI j) y.2.2) 48 (fun a b => ∃ q r, a = some q ∧ b = some r ∧ q.1 = r.1 ∧ Rel T q.2.1 q.2.2 r.2) (fun j x y => twW (j = 0) x.1 x.2.1 y.1 ∧ (j = 0 ∧ x.2.2.1 = -1 ∨ ¬ j = 0) ∧ x.2.2.1 = y.2.1 ∧ xx I1 x.2.2.2.1 ∧ ll L1 x.2.2.2.2 ∧ (∀ c, x.2.2.2.2 13 c = L1 13 c) ∧ jj J y.2.2) ?_ ?_ F 0 (0, 1, -1, I1, L1) (0, -1, J) (by omega) (by omega) ⟨.inl ⟨rfl, rfl, rfl, rfl⟩, .inl ⟨rfl, rfl⟩, rfl, xx_r I1, ll_r L1, fun _ => rfl, jj_r J⟩
  · rintro f ⟨x1, x2, m, I2, L2⟩ ⟨b, m', J2⟩ ⟨v1, -, v2, v3, v4, v5, v6⟩
    dsimp only at v1 v2 v3 v4 v5 v6
    subst v2
    dsimp only
    rw [X5_two_l64, X6_two__l27, if_pos (show (48 : Int32) ≤ nI 48 by decide), if_pos (show (48 : Int32) ≤ nI 48 by decide)]
    rcases v1 with ⟨h0, -⟩ | ⟨x, y, hx, hy, rfl, rfl, rfl⟩
    · exact absurd h0 (by decide)
    have hfin := Rel_fr hrel1 v3 v4 v6
    rcases (show w = 0 ∨ w = 1 ∨ w = 2 by omega) with rfl | rfl | rfl
    · rw [if_pos (by decide), if_pos (by decide)]
      refine ⟨_, _, rfl, rfl, ?_, hfin⟩
      show (100 : Int32) * nI x + nI y = nI (100 * x + y)
      simp only [pn_mr, nI_add]
    · rw [if_neg (by decide), if_pos (by decide), if_neg (by decide), if_pos (by decide)]
      exact ⟨_, _, rfl, rfl, rfl, hfin⟩
    · rw [if_neg (by decide), if_neg (by decide), if_neg (by decide), if_neg (by decide)]
      have h22 := R2_fr h21 v3 v4 v6
      obtain ⟨J3, e1, e2, e3⟩ := pd_m h22 hx hp
      obtain ⟨J4, f1, f2, f3⟩ := pd_m (R2_fr h22 (xx_r _) (ll_r _) e3) hy hp
      unfold X6_alone
      simp (disch := omega) only [pn_dv, pn_rm]
      rw [show (100 * x + y) / 100 = x by omega, show (100 * x + y) % 100 = y by omega, e1, po_b, p_went e2.1 (RR_le K P (rbf e o K M N) (c := x) hp), po_b, f1, po_b, p_went f2.1 (RR_le K P (rbf e o K M N) (c := y) hp), po_b, qS_or, qS_bitsOf, po_b, po_b, px_ix hx (by decide), px_ix hy (by decide), v5 x, v5 y, w3 x hx, w3 y hy, qS_or, qS_bitCount, po_b]
      exact ⟨_, _, rfl, rfl, rfl, Rel_fr hfin (xx_r _) (ll_r _) (jj_t e3 f3)⟩
  · rintro f j ⟨x1, x2, m, I2, L2⟩ ⟨b, m', J2⟩ hj ⟨v1, vm, v2, v3, v4, v5, v6⟩
    dsimp only at v1 vm v2 v3 v4 v5 v6
    subst v2
    left
    dsimp only
    rw [X5_two_l64, X6_two__l27]
    simp (disch := omega) only [pn_ll, if_neg, pj_b, pn_al]
    rw [eF]
    obtain ⟨y1, y2, m', b', I', L', J', q1, q2, q3, q4, q5, q6, q7⟩ := p_inner h21 hj hp w3 (F := F) (by omega) _ _ v1 vm v3 v4 v5 v6
    rw [q1, q2]
    refine ⟨(y1, y2, m', I', L'), (b', m', J'), ⟨?_, .inr (by omega), rfl, q4, q5, q6, q7⟩, rfl, rfl⟩
    rcases q3 with ⟨h1, -⟩ | h1
    · omega
    · exact .inr h1
