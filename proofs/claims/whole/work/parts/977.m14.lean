/-! PURE: copy, feed -/
theorem cm_copy {a b n : Nat} (ha : a + n ≤ 192) (hb : b + n ≤ 192) (hn : n ≤ 48) {F : Nat} (hF : 1000 < F) (J0 : mh_I) : ∃ y, X6_copy_l147 (nI n) (nI a) (nI b) F (0 : Int32) J0 = some (nI n, y) ∧ (∀ x, x < n → y 11 (b + x) = J0 11 (a + x)) ∧ (∀ c k, ¬ (c = 11 ∧ b ≤ k ∧ k < b + n) → y c k = J0 c k) := by
  refine pl_up (fun f j s => X6_copy_l147 (nI n) (nI a) (nI b) f j s) n (fun r => ∃ y, r = some (nI n, y) ∧ (∀ x, x < n → y 11 (b + x) = J0 11 (a + x)) ∧ (∀ c k, ¬ (c = 11 ∧ b ≤ k ∧ k < b + n) → y c k = J0 c k)) (fun t y => (∀ x, x < n → (b ≤ a ∧ x < t ∨ a < b ∧ n ≤ x + t) → y 11 (b + x) = J0 11 (a + x)) ∧ (∀ c k, ¬ (c = 11 ∧ b ≤ k ∧ k < b + n ∧ (b ≤ a ∧ k < b + t ∨ a < b ∧ b + n ≤ k + t)) → y c k = J0 c k)) ?_ ?_ F 0 J0 (by omega) (by omega) ⟨fun x hx h => by omega, fun _ _ _ => rfl⟩
  · rintro f y ⟨y1, y2⟩
    refine ⟨y, ?_, fun x hx => y1 x hx (by omega), fun c k h => y2 c k (by omega)⟩
    show X6_copy_l147 (nI n) (nI a) (nI b) (f + 1) (nI n) y = _
    rw [X6_copy_l147, if_pos (Int32.le_refl _)]
  · rintro f t y ht ⟨y1, y2⟩
    left
    have key : ∀ x0, x0 < n → (b ≤ a ∧ x0 = t ∨ a < b ∧ x0 + t + 1 = n) → (∃ s', ((∀ x, x < n → (b ≤ a ∧ x < t + 1 ∨ a < b ∧ n ≤ x + (t + 1)) → s' 11 (b + x) = J0 11 (a + x)) ∧ (∀ c k, ¬ (c = 11 ∧ b ≤ k ∧ k < b + n ∧ (b ≤ a ∧ k < b + (t + 1) ∨ a < b ∧ b + n ≤ k + (t + 1))) → s' c k = J0 c k)) ∧ s' = mh_u y 11 (b + x0) (y 11 (a + x0))) := by
      intro x0 hx0 hc
      refine ⟨_, ⟨fun x hx h => ?_, fun c k h => ?_⟩, rfl⟩
      · by_cases e : x = x0
        · subst e
          rw [pu_s, y2 11 (a + x) (by omega)]
        · rw [pu_k (by omega)]
          exact y1 x hx (by omega)
      · have : mh_u y 11 (b + x0) (y 11 (a + x0)) c k = y c k := if_neg (by omega)
        rw [this]
        exact y2 c k (by omega)
    show ∃ s', _ ∧ X6_copy_l147 (nI n) (nI a) (nI b) (f + 1) (nI t) y = X6_copy_l147 (nI n) (nI a) (nI b) f (nI (t + 1)) s'
    rw [X6_copy_l147, if_neg (nI_ge ht (by omega))]
    by_cases hba : b ≤ a
    · obtain ⟨s', k1, k2⟩ := key t ht (.inl ⟨hba, rfl⟩)
      refine ⟨s', k1, ?_⟩
      rw [pj_j, if_pos (nI_le hba (by omega))]
      dsimp only
      rw [nI_add, nI_add, px_ix (show a + t < 192 by omega) (by decide), px_ix (show b + t < 192 by omega) (by decide), k2]
      simp only [pj_b, pn_al]
    · obtain ⟨s', k1, k2⟩ := key (n - 1 - t) (by omega) (.inr ⟨by omega, by omega⟩)
      refine ⟨s', k1, ?_⟩
      rw [pj_j, if_neg (nI_ge (by omega) (by omega)), show nI n - (1 : Int32) = nI (n - 1) from pk_sub (b := 1) (by omega), pk_sub (show t ≤ n - 1 by omega)]
      dsimp only
      rw [nI_add, nI_add, px_ix (show a + (n - 1 - t) < 192 by omega) (by decide), px_ix (show b + (n - 1 - t) < 192 by omega) (by decide), k2]
      simp only [pj_b, pn_al]
theorem r_copy : RS_copy Rel := by
  intro T I L J a1 a2 a3 a4 a5 h
  obtain ⟨F, hF, eF⟩ := fuel_ex
  unfold X5_copy X6_copy X2_isMissing
  rw [eF]
  rcases pa_sheet a1 with ⟨h5, h6⟩ | ⟨s, hs, rfl, h5, h6⟩
  · simp only [h5, h6, po_b, if_true]
    exact ⟨_, _, rfl, rfl, rfl, h⟩
  rcases pa_sheet a3 with ⟨g5, g6⟩ | ⟨o, ho, rfl, g5, g6⟩
  · simp only [h5, h6, g5, g6, po_b, if_true, pz_10, if_false]
    exact ⟨_, _, rfl, rfl, rfl, h⟩
  obtain ⟨s1, s2, ⟨z, s3, s4, s5⟩, s6⟩ := h.2.2.2.1 s hs
  obtain ⟨o1, o2, ⟨y, o3, o4, o5⟩, o6⟩ := h.2.2.2.1 o ho
  simp only [h5, h6, g5, g6, po_b, pz_10, if_false, px_ix hs (show 4 < 2 ^ 31 by decide), px_ix ho (show 4 < 2 ^ 31 by decide), s2, o2]
  by_cases hm : I (38 + 2 * s) 1 = -1
  · simp only [hm, if_true, po_b, pz_10, if_false]
    exact ⟨_, _, rfl, rfl, rfl, h⟩
  simp only [hm, if_false, po_b, if_true]
  by_cases hm2 : I (38 + 2 * o) 1 = -1
  · simp only [hm2, if_true, po_b, pz_10, if_false]
    exact ⟨_, _, rfl, rfl, rfl, h⟩
  simp only [hm2, if_false, po_b, if_true]
  by_cases hso : I (38 + 2 * s) 1 = I (38 + 2 * o) 1
  · simp only [hso, if_true]
    unfold X2_hasRoom
    rw [s4, s5, o4, o5]
    by_cases n5 : a5 < 0
    · have e1 : (if a2 < 0 then some (0 : Int32) else if a5 < 0 then some 0 else if nI z < a2 then some 0 else if nI z - a2 < a5 then some 0 else some 1) = some 0 := by
        split
        · rfl
        · rfl
      rw [e1, po_b, if_pos rfl, if_pos n5]
      exact ⟨_, _, rfl, rfl, rfl, h⟩
    · obtain ⟨n, hn, rfl⟩ := nI_of n5
      by_cases n2 : a2 < 0
      · rw [if_pos n2, po_b, if_pos rfl, if_neg n5, if_pos n2]
        exact ⟨_, _, rfl, rfl, rfl, h⟩
      · obtain ⟨i, hi, rfl⟩ := nI_of n2
        simp only [n2, n5, if_false]
        by_cases c1 : i + n ≤ z
        · have d1 : ¬ nI z < nI i := nI_nlt (by omega) (by omega)
          have d2 : ¬ nI z - nI i < nI n := by
            rw [pk_sub (by omega)]
            exact nI_nlt (by omega) (by omega)
          simp only [d1, d2, if_false, po_b, pz_10]
          by_cases n4 : a4 < 0
          · simp only [n4, if_true, po_b]
            exact ⟨_, _, rfl, rfl, rfl, h⟩
          · obtain ⟨j, hj, rfl⟩ := nI_of n4
            simp only [n4, if_false]
            by_cases c2 : j + n ≤ y
            · have d3 : ¬ nI y < nI j := nI_nlt (by omega) (by omega)
              have d4 : ¬ nI y - nI j < nI n := by
                rw [pk_sub (by omega)]
                exact nI_nlt (by omega) (by omega)
              have d5 : nI n ≤ nI y - nI j := Int32.not_lt.mp d4
              simp only [d3, d4, d5, if_false, if_true, po_b, pz_10, nI_clamp hn, nI_clamp hi, nI_clamp hj, pn_mr, nI_add, pj_b]
              rw [if_pos ⟨id, id, id, by omega, by omega⟩]
              obtain ⟨Y, y1, y2, y3⟩ := cm_copy (a := 48 * s + i) (b := 48 * o + j) (n := n) (F := F) (by omega) (by omega) (by omega) (by omega) J
              rw [y1]
              refine ⟨_, _, rfl, rfl, rfl, Rel_sheet ho h (fun b k n1 n2 => ?_) (fun b k n1 n2 n3 => y3 b k (by omega)) ?_ ?_ ⟨y, o3, ?_, ?_⟩ (fun x hx => ?_)⟩
              · exact cpy_a (by omega)
              · dsimp only
                rw [cpy_a (by omega)]; exact o1
              · dsimp only
                rw [cpy_a (by omega), y3 9 o (by omega)]; exact o2
              · dsimp only
                rw [cpy_a (by omega)]; exact o4
              · dsimp only
                rw [y3 10 o (by omega)]; exact o5
              · dsimp only
                have e39 : mh_cpy I (38 + 2 * s + 1) (38 + 2 * o + 1) i j n (39 + 2 * o) x = if j ≤ x ∧ x < j + n then I (39 + 2 * s) (i + (x - j)) else I (39 + 2 * o) x := by
                  unfold mh_cpy va_cpy
                  rw [if_pos (by omega), show 38 + 2 * s + 1 = 39 + 2 * s by omega, show 38 + 2 * o + 1 = 39 + 2 * o by omega]
                rw [e39]
                by_cases hx2 : j ≤ x ∧ x < j + n
                · rw [if_pos hx2, ← s6 _ (show i + (x - j) < 48 by omega)]
                  have := y2 (x - j) (by omega)
                  rw [show 48 * o + j + (x - j) = 48 * o + x by omega, show 48 * s + i + (x - j) = 48 * s + (i + (x - j)) by omega] at this
                  exact this
                · rw [if_neg hx2, y3 11 _ (by omega), o6 x hx]
            · -- the other has no room
              by_cases d3 : nI y < nI j
              · simp only [d3, if_true, po_b]
                exact ⟨_, _, rfl, rfl, rfl, h⟩
              · have d3' : j ≤ y := by
                  rcases Nat.lt_or_ge y j with hh | hh
                  · exact absurd (nI_lt hh hj) d3
                  · exact hh
                have d4 : nI y - nI j < nI n := by
                  rw [pk_sub d3']
                  exact nI_lt (by omega) hn
                have d5 : ¬ nI n ≤ nI y - nI j := Int32.not_le.mpr d4
                simp only [d3, d4, d5, if_false, if_true, po_b]
                exact ⟨_, _, rfl, rfl, rfl, h⟩
        · have hX : (if nI z < nI i then some (0 : Int32) else if nI z - nI i < nI n then some 0 else some 1) = some 0 := by
            by_cases d1 : nI z < nI i
            · rw [if_pos d1]
            · have d1' : i ≤ z := by
                rcases Nat.lt_or_ge z i with hh | hh
                · exact absurd (nI_lt hh hi) d1
                · exact hh
              rw [if_neg d1, if_pos (by rw [pk_sub d1']; exact nI_lt (by omega) hn)]
          rw [hX, po_b, if_pos rfl]
          refine ⟨(-12, I), (-12, J), rfl, ?_, rfl, h⟩
          by_cases n4 : a4 < 0
          · rw [if_pos n4]
          · rw [if_neg n4]
            by_cases d1 : nI z < nI i
            · rw [if_pos d1]
            · have d1' : i ≤ z := by
                rcases Nat.lt_or_ge z i with hh | hh
                · exact absurd (nI_lt hh hi) d1
                · exact hh
              rw [if_neg d1]
              by_cases d3 : nI y < a4
              · rw [if_pos d3]
              · rw [if_neg d3, if_pos (by rw [pk_sub d1']; exact nI_lt (by omega) hn)]
  · simp only [hso, if_false]
    exact ⟨_, _, rfl, rfl, rfl, h⟩
/-! feed -/
def RZ (T : Option Nat) (I : mh_I) (L : mh_L) (J : mh_I) (z : Nat) : Prop := Rel T I L J ∧ I 7 1 = nI z ∧ J 0 5 = nI z
theorem RZ_s {T : Option Nat} {I : mh_I} {L : mh_L} {J : mh_I} {z b : Nat} (h : RZ T I L J z) (hz : z < 160) (hb : b < 256) : RZ T (mh_u (mh_u I 7 1 (nI (z + 1))) 8 z (nI b)) L (mh_u (mh_u J 5 z (nI b)) 0 5 (nI (z + 1))) (z + 1) := by
  obtain ⟨⟨hT, ⟨K, M, P, N, u, n, hc1, hc2⟩, m3, m4, m5⟩, e1, e2⟩ := h
  have qo : ∀ c k, ¬ (c = 8 ∨ (c = 7 ∧ k = 1)) → mh_u (mh_u I 7 1 (nI (z + 1))) 8 z (nI b) c k = I c k := fun c k hc => by
    rw [pu_a (by omega)]
    exact if_neg (by omega)
  have jo : ∀ c k, ¬ (c = 5 ∨ (c = 0 ∧ k = 5)) → mh_u (mh_u J 5 z (nI b)) 0 5 (nI (z + 1)) c k = J c k := fun c k hc => by
    have : ∀ (A : mh_I) v, mh_u A 0 5 v c k = A c k := fun A v => if_neg (by omega)
    rw [this, pu_a (by omega)]
  obtain ⟨⟨h1, h2, h3, h4, h5, h6, h7⟩, ⟨g1, g2, g3, g4, g5⟩, k1, k2, k3, k4, k5⟩ := hc1
  refine ⟨⟨hT, ⟨K, M, P, N, u, n, ?_, ?_⟩, ?_, ?_, fun k hk => (jo 13 k (by omega)).trans (m5 k hk)⟩, by rw [pu_a (by decide), pu_s], by rw [pu_s]⟩
  · exact ⟨⟨fun c hc => (qo 2 c (by omega)).trans (h1 c hc), h2, fun c hc => (qo 3 c (by omega)).trans (h3 c hc), h4, h5, h6, (qo 1 4 (by omega)).trans h7⟩, ⟨fun c hc => (jo 1 c (by omega)).trans (g1 c hc), fun c hc => (jo 2 c (by omega)).trans (g2 c hc), fun c hc => (jo 3 c (by omega)).trans (g3 c hc), fun c hc => (jo 4 c (by omega)).trans (g4 c hc), (jo 0 9 (by omega)).trans g5⟩, k1, k2, (qo 0 5 (by omega)).trans k3, (jo 0 8 (by omega)).trans k4, fun v hv => by
      obtain ⟨e, o, t1, t2, t3⟩ := k5 v hv
      exact ⟨e, o, t1, ⟨fun j hj => (qo _ _ (by omega)).trans (t2.1 j hj), fun q hq => (qo _ _ (by omega)).trans (t2.2 q hq)⟩, ⟨fun j hj => (jo _ _ (by omega)).trans (t3.1 j hj), fun q hq => (jo _ _ (by omega)).trans (t3.2 q hq)⟩⟩⟩
  · rcases hc2 with ⟨h1, h2⟩ | ⟨h1, h2, K, M, P, N, u, ⟨a1, a2, a3, a4, a5, a6, a7⟩, b1, b2, b3⟩
    · exact .inl ⟨(qo 0 2 (by omega)).trans h1, (jo 0 10 (by omega)).trans h2⟩
    · exact .inr ⟨(qo 0 2 (by omega)).trans h1, (jo 0 10 (by omega)).trans h2, K, M, P, N, u, ⟨fun i hi => (qo 5 i (by omega)).trans (a1 i hi), a2, fun i hi => (qo 6 i (by omega)).trans (a3 i hi), a4, a5, a6, (qo 4 4 (by omega)).trans a7⟩, fun i hi => ⟨(jo 8 _ (by omega)).trans (b1 i hi).1, (jo 8 _ (by omega)).trans (b1 i hi).2.1, (jo 8 _ (by omega)).trans (b1 i hi).2.2.1, (jo 8 _ (by omega)).trans (b1 i hi).2.2.2⟩, (jo 0 11 (by omega)).trans b2, b3⟩
  · obtain ⟨w, w1, w2, w3, w4⟩ := m3
    have hwz : w = z := (nI_eq (by omega) (by omega)).mp (w2.symm.trans e1)
    subst hwz
    refine ⟨w + 1, by omega, by rw [pu_a (by decide), pu_s], by rw [pu_s], fun i hi => ?_⟩
    by_cases ei : i = w
    · subst ei
      exact ⟨b, hb, by rw [pu_s], by rw [pu_a (by decide), pu_s]⟩
    · obtain ⟨b', q1, q2, q3⟩ := w4 i (by omega)
      exact ⟨b', q1, by rw [pu_k ei, pu_a (by decide), q2], by rw [pu_a (by decide), pu_k ei, q3]⟩
  · intro s hs
    obtain ⟨h1, h2, ⟨z', h3, h4, h5⟩, h6⟩ := m4 s hs
    have q1 := qo (38 + 2 * s) 1 (by omega)
    exact ⟨by rw [q1]; exact h1, by rw [q1, jo 9 s (by omega)]; exact h2, ⟨z', h3, (qo _ _ (by omega)).trans h4, (jo 10 s (by omega)).trans h5⟩, fun i hi => by rw [jo 11 _ (by omega), qo (39 + 2 * s) i (by omega)]; exact h6 i hi⟩
theorem X3_add_ok {I : mh_I} {z : Nat} (h : I 7 1 = nI z) (hz : z < 160) (v : Int32) : X3_add v I = some (mh_u (mh_u I 7 1 (nI (z + 1))) 8 z v) := by
  unfold X3_add
  rw [h]
  simp (disch := omega) only [pn_ll, if_neg, px_ix, pn_al]
theorem pa_byte (v : Int32) : (X5_isByte v = some 0 ∧ X6_isByte v = some 0) ∨ ∃ c, c < 256 ∧ v = nI c ∧ X5_isByte v = some 1 ∧ X6_isByte v = some 1 := by
  unfold X5_isByte X6_isByte
  rcases pa_rng v 255 (n := 255) (by decide) with ⟨h1, h2, -⟩ | ⟨c, h1, h2, h3, h4⟩
  · exact .inl ⟨by rw [h1]; rfl, by rw [h2]; rfl⟩
  · exact .inr ⟨c, by omega, h2, by rw [h3]; rfl, by rw [h4]; rfl⟩
theorem feed_6 {J : mh_I} {n k z : Nat} {b1 b2 b3 b4 b5 v : Int32} {f : Nat} (hk : k < n) (hn : n ≤ 5) (h : J 0 5 = nI z) (hz : z < 160) (hv : (if k = 0 then b1 else if k = 1 then b2 else if k = 2 then b3 else if k = 3 then b4 else b5) = v) : X6_feed_l68 (nI n) b1 b2 b3 b4 b5 (f + 1) (nI k) J = X6_feed_l68 (nI n) b1 b2 b3 b4 b5 f (nI (k + 1)) (mh_u (mh_u J 5 z v) 0 5 (nI (z + 1))) := by
  rw [X6_feed_l68, if_neg (nI_ge hk (by omega)), h, pj_j]
  have e : (mh_u J 5 z v 0 5) = nI z := by rw [pu_a (by decide), h]
  simp (disch := omega) only [px_ix, pj_b, pn_er, pn_al]
  rw [← hv]
  have e2 : ∀ w : Int32, mh_u J 5 z w 0 5 = nI z := fun w => by rw [pu_a (by decide), h]
  simp only [e2, pn_al]
  repeat' split
  all_goals rfl
theorem r_feed : RS_feed Rel := by
  intro T I L J a1 a2 a3 a4 a5 a6 h
  obtain ⟨F, hF, eF⟩ := fuel_ex
  unfold X5_feed X6_feed
  rw [eF]
  rcases pa_1 a1 5 (n := 5) (by decide) with ⟨n5, n6⟩ | ⟨n, hn0, hn, rfl, n5, n6⟩
  · simp only [n5, n6, po_b, if_true, pj_j]
    have hb : ∀ v : Int32, ∃ r, X5_isByte v = some r := fun v => by
      rcases pa_byte v with ⟨e, -⟩ | ⟨c, -, -, e, -⟩ <;> exact ⟨_, e⟩
    obtain ⟨r2, e2⟩ := hb a2
    obtain ⟨r3, e3⟩ := hb a3
    obtain ⟨r4, e4⟩ := hb a4
    obtain ⟨r5, e5⟩ := hb a5
    obtain ⟨r6, e6⟩ := hb a6
    simp only [e2, e3, e4, e5, e6, po_b, ite_self]
    exact ⟨_, _, rfl, rfl, rfl, h⟩
  rcases pa_byte a2 with ⟨e5, e6⟩ | ⟨b2, hb2, rfl, e5, e6⟩
  · simp only [n5, n6, e5, e6, po_b, if_true, pj_j, pz_10, if_false]
    exact ⟨_, _, rfl, rfl, rfl, h⟩
  rcases pa_byte a3 with ⟨f5, f6⟩ | ⟨b3, hb3, rfl, f5, f6⟩
  · simp only [n5, n6, e5, e6, f5, f6, po_b, if_true, pj_j, pz_10, if_false]
    exact ⟨_, _, rfl, rfl, rfl, h⟩
  rcases pa_byte a4 with ⟨g5, g6⟩ | ⟨b4, hb4, rfl, g5, g6⟩
  · simp only [n5, n6, e5, e6, f5, f6, g5, g6, po_b, if_true, pj_j, pz_10, if_false]
    exact ⟨_, _, rfl, rfl, rfl, h⟩
  rcases pa_byte a5 with ⟨k5, k6⟩ | ⟨b5, hb5, rfl, k5, k6⟩
  · simp only [n5, n6, e5, e6, f5, f6, g5, g6, k5, k6, po_b, if_true, pj_j, pz_10, if_false]
    exact ⟨_, _, rfl, rfl, rfl, h⟩
  rcases pa_byte a6 with ⟨l5, l6⟩ | ⟨b6, hb6, rfl, l5, l6⟩
  · simp only [n5, n6, e5, e6, f5, f6, g5, g6, k5, k6, l5, l6, po_b, if_true, pj_j, pz_10, if_false]
    exact ⟨_, _, rfl, rfl, rfl, h⟩
  obtain ⟨z, z1, z2, z3, -⟩ := h.2.2.1
  simp only [n5, n6, e5, e6, f5, f6, g5, g6, k5, k6, l5, l6, po_b, pj_j, pz_10, if_false, z2, z3, nI_add]
  simp (disch := omega) only [pn_lr]
  by_cases hfull : z + n ≤ 160
  · rw [if_pos hfull, if_pos hfull]
    have R0 : RZ T I L J z := ⟨h, z2, z3⟩
    have R1 := RZ_s R0 (by omega) hb2
    have hend : ∀ (f : Nat) (J' : mh_I), X6_feed_l68 (nI n) (nI b2) (nI b3) (nI b4) (nI b5) (nI b6) (f + 1) (nI n) J' = some (J' 0 5, J') := fun f J' => by
      rw [X6_feed_l68, if_pos (Int32.le_refl _)]
    obtain ⟨G, rfl⟩ : ∃ G, F = G + 1 + 1 + 1 + 1 + 1 + 1 := ⟨F - 6, by omega⟩
    rw [show (0 : Int32) = nI 0 from rfl]
    rw [feed_6 (b1 := nI b2) (b2 := nI b3) (b3 := nI b4) (b4 := nI b5) (b5 := nI b6) (k := 0) (v := nI b2) (by omega) hn R0.2.2 (by omega) rfl, X3_add_ok R0.2.1 (by omega), po_b]
    by_cases c1 : n ≤ 1
    · obtain rfl : n = 1 := by omega
      rw [if_pos (by omega), if_pos (by omega), if_pos (by omega), if_pos (by omega), hend]
      exact ⟨_, _, rfl, rfl, R1.2.1.trans R1.2.2.symm, R1.1⟩
    have R2 := RZ_s R1 (by omega) hb3
    rw [if_neg (by omega), X3_add_ok R1.2.1 (by omega), po_b, feed_6 (b1 := nI b2) (b2 := nI b3) (b3 := nI b4) (b4 := nI b5) (b5 := nI b6) (k := 1) (v := nI b3) (by omega) hn R1.2.2 (by omega) rfl]
    by_cases c2 : n ≤ 2
    · obtain rfl : n = 2 := by omega
      rw [if_pos (by omega), if_pos (by omega), if_pos (by omega), hend]
      exact ⟨_, _, rfl, rfl, R2.2.1.trans R2.2.2.symm, R2.1⟩
    have R3 := RZ_s R2 (by omega) hb4
    rw [if_neg (by omega), X3_add_ok R2.2.1 (by omega), po_b, feed_6 (b1 := nI b2) (b2 := nI b3) (b3 := nI b4) (b4 := nI b5) (b5 := nI b6) (k := 2) (v := nI b4) (by omega) hn R2.2.2 (by omega) rfl]
    by_cases c3 : n ≤ 3
    · obtain rfl : n = 3 := by omega
      rw [if_pos (by omega), if_pos (by omega), hend]
      exact ⟨_, _, rfl, rfl, R3.2.1.trans R3.2.2.symm, R3.1⟩
    have R4 := RZ_s R3 (by omega) hb5
    rw [if_neg (by omega), X3_add_ok R3.2.1 (by omega), po_b, feed_6 (b1 := nI b2) (b2 := nI b3) (b3 := nI b4) (b4 := nI b5) (b5 := nI b6) (k := 3) (v := nI b5) (by omega) hn R3.2.2 (by omega) rfl]
    by_cases c4 : n ≤ 4
    · obtain rfl : n = 4 := by omega
      rw [if_pos (by omega), hend]
      exact ⟨_, _, rfl, rfl, R4.2.1.trans R4.2.2.symm, R4.1⟩
    have R5 := RZ_s R4 (by omega) hb6
    rw [if_neg (by omega), X3_add_ok R4.2.1 (by omega), po_b, feed_6 (b1 := nI b2) (b2 := nI b3) (b3 := nI b4) (b4 := nI b5) (b5 := nI b6) (k := 4) (v := nI b6) (by omega) hn R4.2.2 (by omega) rfl]
    obtain rfl : n = 5 := by omega
    rw [hend]
    exact ⟨_, _, rfl, rfl, R5.2.1.trans R5.2.2.symm, R5.1⟩
  · rw [if_neg hfull, if_neg hfull]
    exact ⟨_, _, rfl, rfl, rfl, h⟩
