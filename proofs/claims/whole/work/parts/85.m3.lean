/-! PURE: laws, span, slips, odds -/
theorem r_laws : RS_laws Rel := by
  intro T I L J a1 a2 a3 h
  obtain ⟨F, hF, eF⟩ := fuel_ex
  unfold X5_laws X6_laws
  rw [eF]
  have hsh : Rsheet I J := h.2.2.2.1
  rcases p_rag hsh a1 a2 a3 with ⟨r, hr, h5, h6⟩ | ⟨s, c, hs, hc, rfl, rfl, h5, h6, hz⟩
  · simp only [h5, h6, po_b, hr, if_false]
    exact ⟨_, _, rfl, rfl, rfl, h⟩
  rcases pa_pull a3 with ⟨k5, k6⟩ | ⟨p, hp, rfl, k5, k6⟩
  · rw [h5, po_b, if_pos rfl, k5, po_b, if_pos rfl, h6, k6, po_b, if_pos rfl, po_b, if_neg (show ¬ (-7 : Int32) = 0 by decide)]
    exact ⟨_, _, rfl, rfl, rfl, h⟩
  obtain ⟨-, ⟨K, M, P, N, u, n, hc1, -⟩, -⟩ := id h
  rw [h5, po_b, if_pos rfl, k5, po_b, if_neg (by decide), h6, k6, po_b, if_neg (by decide), po_b, if_pos rfl, pj_b]
  obtain ⟨⟨m1, m2, m3, m4, m5, m6, m7⟩, ⟨g1, g2, g3, g4, g5⟩, q1, q2, q3, q4, q5⟩ := hc1
  refine pl_2 (fun f j (x : Int32 × mh_I × mh_L) => X5_laws_l32 (nI s) (nI c) (nI p) f x.1 (nI j) x.2.1 x.2.2) (fun f j (x : Int32 × mh_I) => X6_laws_l29 (nI s) (nI c) (nI p) _ f x.1 (nI j) x.2) n (fun a b => ∃ q r, a = some q ∧ b = some r ∧ q.1 = r.1 ∧ Rel T q.2.1 q.2.2 r.2) (fun j x y => x.1 = y.1 ∧ xx I x.2.1 ∧ ll L x.2.2 ∧ (∀ b k, ¬ (14 ≤ b ∨ (b = 0 ∧ 17 ≤ k)) → ¬ (b = 0 ∧ k = 9) → y.2 b k = J b k)) ?_ ?_ F 0 (0, I, L) (0, J) (by omega) (by omega) ⟨rfl, xx_r I, ll_r L, fun _ _ _ _ => rfl⟩
  · rintro f ⟨b, I1, L1⟩ ⟨b', J1⟩ ⟨h1, k1, k2, k3⟩
    dsimp only at h1 k1 k2 k3
    subst h1
    dsimp only
    rw [X5_laws_l32, X6_laws_l29, (k1 0 5 (by omega)).trans q3, (k3 0 8 (by omega) (by omega)).trans q4, if_pos (Int32.le_refl _), if_pos (Int32.le_refl _)]
    refine ⟨_, _, rfl, rfl, rfl, Rel_fr h k1 k2 (fun b k hb => ?_)⟩
    by_cases e9 : b = 0 ∧ k = 9
    · obtain ⟨rfl, rfl⟩ := e9
      exact pu_s J1 0 9 (J 0 9)
    · show mh_u J1 0 9 (J 0 9) b k = J b k
      unfold mh_u
      rw [if_neg e9]
      exact k3 b k hb e9
  · rintro f j ⟨b, I1, L1⟩ ⟨b', J1⟩ hj ⟨h1, k1, k2, k3⟩
    dsimp only at h1 k1 k2 k3
    subst h1
    left
    obtain ⟨e, o, t1, t2, t3⟩ := q5 j hj
    have hj6 : j < 6 := by omega
    have hjj : ∀ b k, ¬ (14 ≤ b ∨ (b = 0 ∧ 17 ≤ k)) → ¬ (b = 0 ∧ k = 9) → (mh_u J1 0 9 (nI j)) b k = J b k := fun b k hb h9 => by
      show mh_u J1 0 9 (nI j) b k = J b k
      unfold mh_u
      rw [if_neg h9]
      exact k3 b k hb h9
    have hS1 : cSt j I1 L1 K M P N e o := ⟨fun c hc => (k1 2 c (by omega)).trans (m1 c hc), m2, fun c hc => (k1 3 c (by omega)).trans (m3 c hc), m4, (k2 1 2 (by decide) (by decide)).trans m5, (k2 1 3 (by decide) (by decide)).trans m6, hj6, t1, fun i hi => (k1 _ _ (by omega)).trans (t2.1 i hi), fun q hq => (k1 _ _ (by omega)).trans (t2.2 q hq)⟩
    have hS2 : rStt j (mh_u J1 0 9 (nI j)) K M P N e o := ⟨fun c hc => (hjj 1 c (by omega) (by omega)).trans (g1 c hc), m2, fun c hc => (hjj 2 c (by omega) (by omega)).trans (g2 c hc), m4, fun c hc => (hjj 3 c (by omega) (by omega)).trans (g3 c hc), fun c hc => (hjj 4 c (by omega) (by omega)).trans (g4 c hc), hj6, pu_s _ _ _ _, t1, fun i hi => (hjj _ _ (by omega) (by omega)).trans (t3.1 i hi), fun q hq => (hjj _ _ (by omega) (by omega)).trans (t3.2 q hq)⟩
    have hr := RR_run K P (rbf e o K M N) c p
    obtain ⟨I', L', a1, a2, a3, a4, a5, a6⟩ := cx_run (H := fun _ => false) hS1 hp (isRun_0 hr)
    obtain ⟨J', b1, b2, b3, b4⟩ := cm_run hS2 hp hr
    have b4' := jj_j b4
    have d3 : xx I I' := xx_t k1 (xx_x hj6 a5)
    have d4 : ll L L' := ll_t k2 (ll_l a6)
    have d5 : ∀ b k, ¬ (14 ≤ b ∨ (b = 0 ∧ 17 ≤ k)) → ¬ (b = 0 ∧ k = 9) → J' b k = J b k := fun b k hb h9 => (b4' b k hb).trans (hjj b k hb h9)
    have e1 : X6_runsFrom (nI c) (nI p) (mh_u J1 0 9 (nI j)) = some J' := by
      unfold X6_runsFrom
      rw [qS_sh hc, b1]
      rfl
    have hjr : jj (mh_u J' 0 9 (J 0 9)) J' ∨ True := .inr trivial
    have hu : ∃ v, X2_firstUnlike (38 + 2 * s) (L' 10 1) I' = some v ∧ X6_unlike (nI s) J' = some v := by
      have hsh' : Rsheet I (mh_u J 0 9 (nI j)) := fun z hz => by
        obtain ⟨w1, w2, w3, w4⟩ := hsh z hz
        exact ⟨w1, w2, w3, w4⟩
      obtain ⟨v, v1, v2, -⟩ := p_unl (J := mh_u J 0 9 (nI j)) hsh' hs hz d3 (fun b k hb => by
        show J' b k = mh_u J 0 9 (nI j) b k
        by_cases e9 : b = 0 ∧ k = 9
        · obtain ⟨rfl, rfl⟩ := e9
          rw [b4' 0 9 hb, pu_s, pu_s]
        · rw [d5 b k hb e9]
          unfold mh_u
          rw [if_neg e9]) ⟨a2, a3, a4⟩ ⟨b2, b3⟩ (RR_le K P (rbf e o K M N) (c := c) hp)
      exact ⟨v, v1, v2⟩
    obtain ⟨v, v1, v2⟩ := hu
    dsimp only
    rw [X5_laws_l32, X6_laws_l29, (k1 0 5 (by omega)).trans q3, (k3 0 8 (by omega) (by omega)).trans q4, e1, qS_bit hc]
    rw [qS_0]
    simp (disch := omega) only [pn_le, pn_ll, if_neg, px_ix, po_b, a1, v1, v2, pj_j, pj_b, pn_al]
    by_cases hv : v = -1
    · refine ⟨(b ||| ((1 : Int32) <<< ((nI j) &&& 31)), I', L'), (b ||| ((1 : Int32) <<< ((nI j) &&& 31)), J'), ⟨rfl, d3, d4, d5⟩, ?_, ?_⟩
      · rw [if_pos hv]
      · rw [if_pos hv]
    · refine ⟨(b, I', L'), (b, J'), ⟨rfl, d3, d4, d5⟩, ?_, ?_⟩
      · rw [if_neg hv]
      · rw [if_neg hv, Int32.or_zero]
theorem r_span : RS_span Rel := by
  intro T I L J a1 a2 a3 h
  obtain ⟨F, hF, eF⟩ := fuel_ex
  unfold X5_span X6_span
  rw [eF]
  have hsh : Rsheet I J := h.2.2.2.1
  rcases p_rag hsh a1 a2 0 with ⟨r, hr, h5, h6⟩ | ⟨s, c, hs, hc, rfl, rfl, h5, h6, hz⟩
  · simp only [h5, h6, po_b, hr, if_false, pj_j]
    exact ⟨_, _, rfl, rfl, rfl, h⟩
  have h6 : X6_ragWrong (nI s) (nI c) (0 : Int32) J = some 0 := h6.trans (by decide)
  rcases pa_rng a3 1 (n := 1) (by decide) with ⟨g5, g6, -⟩ | ⟨w, hw, rfl, g5, g6⟩
  · simp only [h5, h6, g5, g6, po_b, if_true, pj_j]
    exact ⟨_, _, rfl, rfl, rfl, h⟩
  obtain ⟨-, ⟨K, M, P, N, u, n, hc1, -⟩, -⟩ := id h
  obtain ⟨e, o, h2⟩ := R2_of hc1
  rw [h5, po_b, if_pos rfl, g5, po_b, if_neg (by decide), h6, po_b, pj_j, if_pos rfl, g6, po_b, if_neg (by decide)]
  have ok : Nat → Prop := fun p => ∀ i, i < 48 → I (39 + 2 * s) i = nI (if 0 < RR K P (rbf e o K M N) c p i then 1 else 0)
  have stepX : ∀ (ok : Nat → Prop), (∀ p, ok p ↔ ∀ i, i < 48 → I (39 + 2 * s) i = nI (if 0 < RR K P (rbf e o K M N) c p i then 1 else 0)) → (∃ v I' L', X5_span_l31 (nI s) (nI c) (nI w) F (0 : Int32) I L = some (v, I', L') ∧ xx I I' ∧ ll L L' ∧ ((v = -1 ∧ ∀ p, p < 100 → ¬ ok p) ∨ ∃ a, a < 100 ∧ v = nI a ∧ ok a ∧ ((w = 0 ∧ ∀ p, p < a → ¬ ok p) ∨ (w = 1 ∧ ∀ p, a < p → p < 100 → ¬ ok p)))) ∧ (∃ v1 v2 J', X6_span_l45 (nI s) (nI c) (fun (v15 : Int32) (v16 : Int32) (I17 : mh_I) => if nI w = 0 then some (v15, I17) else some (v16, I17)) F (-1 : Int32) (-1 : Int32) (0 : Int32) J = (if nI w = 0 then some (v1, J') else some (v2, J')) ∧ jj J J' ∧ ((v1 = -1 ∧ v2 = -1 ∧ ∀ p, p < 100 → ¬ ok p) ∨ ∃ a b, a < 100 ∧ b < 100 ∧ v1 = nI a ∧ v2 = nI b ∧ ok a ∧ ok b ∧ (∀ p, p < a → ¬ ok p) ∧ (∀ p, b < p → p < 100 → ¬ ok p))) := by
    intro ok hok
    constructor
    · refine pl_up (fun f j (x : mh_I × mh_L) => X5_span_l31 (nI s) (nI c) (nI w) f j x.1 x.2) 100 (fun r => ∃ v I' L', r = some (v, I', L') ∧ xx I I' ∧ ll L L' ∧ ((v = -1 ∧ ∀ p, p < 100 → ¬ ok p) ∨ ∃ a, a < 100 ∧ v = nI a ∧ ok a ∧ ((w = 0 ∧ ∀ p, p < a → ¬ ok p) ∨ (w = 1 ∧ ∀ p, a < p → p < 100 → ¬ ok p)))) (fun j x => xx I x.1 ∧ ll L x.2 ∧ ∀ i, i < j → ¬ ok (if w = 0 then i else 99 - i)) ?_ ?_ F 0 (I, L) (by omega) (by omega) ⟨xx_r I, ll_r L, fun i hi => absurd hi (Nat.not_lt_zero i)⟩
      · rintro f ⟨I1, L1⟩ ⟨k1, k2, k3⟩
        refine ⟨-1, I1, L1, ?_, k1, k2, .inl ⟨rfl, fun p hp hp2 => ?_⟩⟩
        · show X5_span_l31 (nI s) (nI c) (nI w) (f + 1) (nI 100) I1 L1 = _
          rw [X5_span_l31, if_pos (by decide)]
        · by_cases hw0 : w = 0
          · have := k3 p hp
            rw [if_pos hw0] at this
            exact this hp2
          · have := k3 (99 - p) (by omega)
            rw [if_neg hw0, show 99 - (99 - p) = p by omega] at this
            exact this hp2
      · rintro f j ⟨I1, L1⟩ hj ⟨k1, k2, k3⟩
        dsimp only at k1 k2 k3
        have h2' := R2_fr h2 k1 k2 (jj_r J)
        have hp : (if w = 0 then j else 99 - j) < 100 := by split <;> omega
        obtain ⟨I', L', d1, d2, d3, d4⟩ := pd_x h2' hc hp
        obtain ⟨J', e1, e2, e3⟩ := pd_m h2' hc hp
        obtain ⟨v, v1, -, v3⟩ := p_unl hsh hs hz (xx_t k1 d3) e3 d2 e2 (RR_le K P (rbf e o K M N) (c := c) hp)
        have hpull : (if nI w = 0 then nI j else (99 : Int32) - nI j) = nI (if w = 0 then j else 99 - j) := by
          by_cases hw0 : w = 0
          · subst hw0; rfl
          · rw [if_neg (nI_ne0 (by omega) (by omega)), if_neg hw0]
            simp (disch := omega) only [pn_sr]
        show (∃ s' : mh_I × mh_L, (xx I s'.1 ∧ ll L s'.2 ∧ ∀ i, i < j + 1 → ¬ ok (if w = 0 then i else 99 - i)) ∧ X5_span_l31 (nI s) (nI c) (nI w) (f + 1) (nI j) I1 L1 = X5_span_l31 (nI s) (nI c) (nI w) f (nI (j + 1)) s'.1 s'.2) ∨ ∃ v I' L', X5_span_l31 (nI s) (nI c) (nI w) (f + 1) (nI j) I1 L1 = some (v, I', L') ∧ _
        have eX : X5_span_l31 (nI s) (nI c) (nI w) (f + 1) (nI j) I1 L1 = if v = -1 then some (nI (if w = 0 then j else 99 - j), I', L') else X5_span_l31 (nI s) (nI c) (nI w) f (nI (j + 1)) I' L' := by
          rw [X5_span_l31]
          have hT : ∀ (B : Int32 → Option (Int32 × mh_I × mh_L)), mh_j B (fun J4 => if nI w = 0 then J4 (nI j) else J4 ((99 : Int32) - nI j)) = B (nI (if w = 0 then j else 99 - j)) := fun B => by
            rw [← hpull, pj_j]
            split <;> rfl
          rw [if_neg (by simp (disch := omega) only [pn_tl]; omega), hT, d1, po_b, px_ix hs (by decide)]
          dsimp only
          rw [v1, po_b]
          simp only [pj_b, pn_al]
        rw [eX]
        by_cases hv : v = -1
        · right
          rw [if_pos hv]
          refine ⟨_, _, _, rfl, xx_t k1 d3, ll_t k2 d4, .inr ⟨_, hp, rfl, (hok _).mpr (v3.mp hv), ?_⟩⟩
          by_cases hw0 : w = 0
          · refine .inl ⟨hw0, fun p hp2 => ?_⟩
            rw [if_pos hw0] at hp2
            have := k3 p hp2
            rw [if_pos hw0] at this
            exact this
          · refine .inr ⟨by omega, fun p hp1 hp2 => ?_⟩
            rw [if_neg hw0] at hp1
            have := k3 (99 - p) (by omega)
            rw [if_neg hw0, show 99 - (99 - p) = p by omega] at this
            exact this
        · left
          rw [if_neg hv]
          refine ⟨(I', L'), ⟨xx_t k1 d3, ll_t k2 d4, fun i hi => ?_⟩, rfl⟩
          by_cases ei : i = j
          · subst ei
            exact fun hh => hv (v3.mpr ((hok _).mp hh))
          · exact k3 i (by omega)
    · refine pl_up (fun f j (x : Int32 × Int32 × mh_I) => X6_span_l45 (nI s) (nI c) (fun (v15 : Int32) (v16 : Int32) (I17 : mh_I) => if nI w = 0 then some (v15, I17) else some (v16, I17)) f x.1 x.2.1 j x.2.2) 100 (fun r => ∃ v1 v2 J', r = (if nI w = 0 then some (v1, J') else some (v2, J')) ∧ jj J J' ∧ ((v1 = -1 ∧ v2 = -1 ∧ ∀ p, p < 100 → ¬ ok p) ∨ ∃ a b, a < 100 ∧ b < 100 ∧ v1 = nI a ∧ v2 = nI b ∧ ok a ∧ ok b ∧ (∀ p, p < a → ¬ ok p) ∧ (∀ p, b < p → p < 100 → ¬ ok p))) (fun j x => jj J x.2.2 ∧ ((x.1 = -1 ∧ x.2.1 = -1 ∧ ∀ p, p < j → ¬ ok p) ∨ ∃ a b, a < j ∧ b < j ∧ x.1 = nI a ∧ x.2.1 = nI b ∧ ok a ∧ ok b ∧ (∀ p, p < a → ¬ ok p) ∧ (∀ p, b < p → p < j → ¬ ok p))) ?_ ?_ F 0 (-1, -1, J) (by omega) (by omega) ⟨jj_r J, .inl ⟨rfl, rfl, fun i hi => absurd hi (Nat.not_lt_zero i)⟩⟩
      · rintro f ⟨x1, x2, J1⟩ ⟨k1, k2⟩
        refine ⟨x1, x2, J1, ?_, k1, k2⟩
        show X6_span_l45 (nI s) (nI c) _ (f + 1) x1 x2 (nI 100) J1 = _
        rw [X6_span_l45, if_pos (by decide)]
      · rintro f j ⟨x1, x2, J1⟩ hj ⟨k1, k2⟩
        dsimp only at k1 k2
        left
        have h2' := R2_fr h2 (xx_r I) (ll_r L) k1
        obtain ⟨I', L', d1, d2, d3, d4⟩ := pd_x h2' hc hj
        obtain ⟨J', e1, e2, e3⟩ := pd_m h2' hc hj
        obtain ⟨v, -, v2, v3⟩ := p_unl hsh hs hz d3 (jj_t k1 e3) d2 e2 (RR_le K P (rbf e o K M N) (c := c) hj)
        refine ⟨(if v = -1 then (if x1 = -1 then nI j else x1) else x1, if v = -1 then nI j else x2, J'), ⟨jj_t k1 e3, ?_⟩, ?_⟩
        · dsimp only
          by_cases hv : v = -1
          · have hokj : ok j := (hok j).mpr (v3.mp hv)
            rw [if_pos hv, if_pos hv]
            right
            rcases k2 with ⟨y1, y2, y3⟩ | ⟨a, b, y1, y2, y3, y4, y5, y6, y7, y8⟩
            · rw [if_pos y1]
              exact ⟨j, j, by omega, by omega, rfl, rfl, hokj, hokj, y3, fun p hp1 hp2 => by omega⟩
            · rw [if_neg (by rw [y3, pn_neg (by omega)]; exact id)]
              exact ⟨a, j, by omega, by omega, y3, rfl, y5, hokj, y7, fun p hp1 hp2 => by omega⟩
          · have hnok : ¬ ok j := fun hh => hv (v3.mpr ((hok j).mp hh))
            rw [if_neg hv, if_neg hv]
            rcases k2 with ⟨y1, y2, y3⟩ | ⟨a, b, y1, y2, y3, y4, y5, y6, y7, y8⟩
            · refine .inl ⟨y1, y2, fun p hp => ?_⟩
              by_cases ep : p = j
              · subst ep; exact hnok
              · exact y3 p (by omega)
            · refine .inr ⟨a, b, by omega, by omega, y3, y4, y5, y6, y7, fun p hp1 hp2 => ?_⟩
              by_cases ep : p = j
              · subst ep; exact hnok
              · exact y8 p hp1 (by omega)
        · show X6_span_l45 (nI s) (nI c) _ (f + 1) x1 x2 (nI j) J1 = _
          rw [X6_span_l45, if_neg (by simp (disch := omega) only [pn_tl]; omega), e1, po_b, v2, po_b]
          simp only [pj_j, pj_b, pn_al]
          by_cases hv : v = -1
          · simp only [hv, if_true]
            by_cases hx : x1 = -1
            · simp only [hx, if_true]
            · simp only [hx, if_false]
          · simp only [hv, if_false]
  obtain ⟨⟨v, I', L', c1, c2, c3, c4⟩, ⟨v1, v2, J', c5, c6, c7⟩⟩ := stepX (fun p => ∀ i, i < 48 → I (39 + 2 * s) i = nI (if 0 < RR K P (rbf e o K M N) c p i then 1 else 0)) (fun p => Iff.rfl)
  rw [c1, c5]
  have hw2 : w = 0 ∨ w = 1 := by omega
  rcases hw2 with rfl | rfl
  · rw [if_pos (by decide)]
    refine ⟨_, _, rfl, rfl, ?_, Rel_fr h c2 c3 c6⟩
    show v = v1
    rcases c4 with ⟨y1, y2⟩ | ⟨a, y1, y2, y3, y4⟩
    · rcases c7 with ⟨z1, -, -⟩ | ⟨a', b', z1, z2, z3, z4, z5, -⟩
      · rw [y1, z1]
      · exact absurd z5 (y2 a' z1)
    · rcases c7 with ⟨-, -, z3⟩ | ⟨a', b', z1, z2, z3, z4, z5, z6, z7, z8⟩
      · exact absurd y3 (z3 a y1)
      · rcases y4 with ⟨-, y5⟩ | ⟨y5, -⟩
        · rw [y2, z3]
          have : a = a' := by
            rcases Nat.lt_trichotomy a a' with hh | hh | hh
            · exact absurd y3 (z7 a hh)
            · exact hh
            · exact absurd z5 (y5 a' hh)
          rw [this]
        · cases y5
  · rw [if_neg (by decide)]
    refine ⟨_, _, rfl, rfl, ?_, Rel_fr h c2 c3 c6⟩
    show v = v2
    rcases c4 with ⟨y1, y2⟩ | ⟨a, y1, y2, y3, y4⟩
    · rcases c7 with ⟨-, z1, -⟩ | ⟨a', b', z1, z2, z3, z4, z5, -⟩
      · rw [y1, z1]
      · exact absurd z5 (y2 a' z1)
    · rcases c7 with ⟨-, -, z3⟩ | ⟨a', b', z1, z2, z3, z4, z5, z6, z7, z8⟩
      · exact absurd y3 (z3 a y1)
      · rcases y4 with ⟨y5, -⟩ | ⟨-, y5⟩
        · cases y5
        · rw [y2, z4]
          have : a = b' := by
            rcases Nat.lt_trichotomy a b' with hh | hh | hh
            · exact absurd z6 (y5 b' hh z2)
            · exact hh
            · exact absurd y3 (z8 a hh y1)
          rw [this]
