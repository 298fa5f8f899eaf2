/-! PURE: a text asked, by the class and by the reference -/
theorem pj_j {τ β : Type} (f : τ) (g : τ → β) : mh_j f g = g f := by
  unfold mh_j
  exact (Eq.symm (Eq.symm (Eq.refl _)))
theorem pj_b {α β : Type} (x : α) (f : α → β) : mh_b x f = f x := by
  unfold mh_b
  exact (Eq.symm (Eq.symm (Eq.refl _)))
theorem fuel_ex : ∃ F, 90000 < F ∧ mh_fuel = F := ⟨100000, by decide, rfl⟩
def cenc (a : Nat) (I : mh_I) (e o : Nat → Nat) : Prop := (∀ j, j < o 3 → I (a + 1) j = co (e j)) ∧ (∀ q, q < 3 → I (a + 2) q = nI (o (q + 1)))
def renc (u : Nat) (J : mh_I) (e o : Nat → Nat) : Prop := (∀ j, j < o 3 → J 6 (200 * u + j) = nI (e j)) ∧ (∀ q, q < 4 → J 7 (4 * u + q) = nI (o q))
def tok (e o : Nat → Nat) : Prop := o 0 = 0 ∧ o 0 ≤ o 1 ∧ o 1 ≤ o 2 ∧ o 2 ≤ o 3 ∧ o 3 ≤ 160 ∧ ∀ q, q < 3 → wfn e (o (q + 1) - o q) (o q) 0 1
def sd (e o : Nat → Nat) (K M : Nat → Nat) (N : Nat → Bool) (q c m : Nat) : Nat := clampN 99 (exn e (nmv K M N c m) (o (q + 1) - o q) (o q) 0 (fun _ => 0))
theorem sd_le (e o : Nat → Nat) (K M : Nat → Nat) (N : Nat → Bool) (q c m : Nat) : sd e o K M N q c m ≤ 99 := clampN_le 99 _ (by decide)
theorem tok_le {e o : Nat → Nat} (h : tok e o) {q : Nat} (hq : q < 3) : o q ≤ o (q + 1) ∧ o (q + 1) ≤ o 3 := by
  obtain ⟨h0, h1, h2, h3, -⟩ := h
  rcases (show q = 0 ∨ q = 1 ∨ q = 2 by omega) with rfl | rfl | rfl
  · exact ⟨h1, Nat.le_trans h2 h3⟩
  · exact ⟨h2, h3⟩
  · exact ⟨h3, Nat.le_refl _⟩
theorem cx_says {a c m : Nat} {I : mh_I} {L : mh_L} {K M : Nat → Nat} {N : Nat → Bool} {e o : Nat → Nat} (ha : 4 ≤ a) (hT : tok e o) (hE : cenc a I e o) (hc : c < 48) (h2 : I 2 c = nI (K c)) (hk : K c < 6) (h3 : I 3 c = nI (M c)) (hN : L 1 3 = qS N) {q : Nat} (hq : q < 3) : ∃ I', X4_says a (nI q) 1 (nI c) (nI m) I L = some (nI (sd e o K M N q c m), I') ∧ sfr a I I' := by
  have hle := tok_le hT hq
  have ho := hT.2.2.2.2.1
  have hw := hT.2.2.2.2.2 q hq
  obtain ⟨F, hF, eF⟩ := fuel_ex
  have hloop : ∃ I', X4_says_l41 a 1 (nI c) (nI m) (nI (o (q + 1))) L (fun (I14 : mh_I) => (X4_pop a I14).bind (fun q15 => (X5_bounded q15.1 (99 : Int32)).bind (fun q16 => some (q16, q15.2)))) F (nI (o q)) (mh_u I a 4 (0 : Int32)) = some (nI (sd e o K M N q c m), I') ∧ sfr a I I' := by
    refine pl_up (fun f j s => X4_says_l41 a 1 (nI c) (nI m) (nI (o (q + 1))) L (fun (I14 : mh_I) => (X4_pop a I14).bind (fun q15 => (X5_bounded q15.1 (99 : Int32)).bind (fun q16 => some (q16, q15.2)))) f j s) (o (q + 1)) (fun r => ∃ I', r = some (nI (sd e o K M N q c m), I') ∧ sfr a I I') (fun j I1 => sfr a I I1 ∧ ∃ d St, stk a I1 d St ∧ wfn e (o (q + 1) - j) j d 1 ∧ exn e (nmv K M N c m) (o (q + 1) - j) j d St = exn e (nmv K M N c m) (o (q + 1) - o q) (o q) 0 (fun _ => 0)) ?_ ?_ F (o q) _ hle.1 (by omega) ⟨?_, 0, fun _ => 0, ⟨?_, by omega, fun i hi => absurd hi (Nat.not_lt_zero i)⟩, hw, rfl⟩
    · rintro f I1 ⟨hf, d, St, hs, hw1, hx⟩
      rw [Nat.sub_self] at hw1 hx
      have hd : d = 1 := hw1
      subst hd
      obtain ⟨I2, g1, -, g3⟩ := stk_pop (d := 0) hs
      refine ⟨I2, ?_, sfr_t hf g3⟩
      show X4_says_l41 a 1 (nI c) (nI m) (nI (o (q + 1))) L _ (f + 1) (nI (o (q + 1))) I1 = _
      rw [X4_says_l41, if_pos (Int32.le_refl _), g1, po_b]
      show (X5_bounded (St 0) (nI 99)).bind _ = _
      rw [clampN_5 99 _ (by decide), po_b, sd, ← hx]
      rfl
    · rintro f j I1 hj ⟨hf, d, St, hs, hw1, hx⟩
      left
      have hn : o (q + 1) - j = (o (q + 1) - (j + 1)) + 1 := by omega
      rw [hn] at hw1 hx
      obtain ⟨I2, g1, g2, g3⟩ := cx_take (m := m) hc ((hf 2 c (by omega)).trans h2) hk ((hf 3 c (by omega)).trans h3) hN hw1.1 hs
      refine ⟨I2, ⟨sfr_t hf g3, _, _, g2, hw1.2, hx⟩, ?_⟩
      show X4_says_l41 a 1 (nI c) (nI m) (nI (o (q + 1))) L _ (f + 1) (nI j) I1 = _
      rw [X4_says_l41]
      simp (disch := omega) only [pn_le, if_neg, px_ix, pj_b, pn_al]
      rw [hf (a + 1) j (by omega), hE.1 j (by omega), g1, po_b]
    · intro b k hb
      by_cases e : b = a
      · rw [pu_k (fun e2 => hb (.inr ⟨e, e2⟩))]
      · rw [pu_a e]
    · rw [pu_s]; rfl
  unfold X4_says
  rw [eF]
  have hmin : ∀ x, x ≤ 160 → mh_min (nI x) (160 : Int32) = nI x := by
    intro x hx
    unfold mh_min
    simp (disch := omega) only [pn_tl, if_neg]
  have hend : ∀ k, k < 3 → (mh_u I a 4 (0 : Int32)) (a + 2) k = nI (o (k + 1)) := fun k hk => by rw [pu_a (by omega), hE.2 k hk]
  simp (disch := omega) only [pj_j, pj_b, px_ix, pn_lr]
  rw [hend q hq, hmin _ (by omega)]
  rcases (show q = 0 ∨ q = 1 ∨ q = 2 by omega) with rfl | rfl | rfl
  · rw [if_pos (Nat.le_refl 0)]
    rw [hT.1] at hloop
    exact hloop
  · rw [if_neg (by decide)]
    simp (disch := omega) only [pn_sl]
    rw [px_ix (show 1 - 1 < 3 by decide) (by decide), hend _ (by decide)]
    exact hloop
  · rw [if_neg (by decide)]
    simp (disch := omega) only [pn_sl]
    rw [px_ix (show 2 - 1 < 3 by decide) (by decide), hend _ (by decide)]
    exact hloop
/-! the reference -/
def fr15 (J J' : mh_I) : Prop := ∀ b k, b ≠ 15 → J' b k = J b k
theorem fr15_r (J : mh_I) : fr15 J J := fun _ _ _ => rfl
theorem fr15_u {J J' : mh_I} (h : fr15 J J') (k : Nat) (v : Int32) : fr15 J (mh_u J' 15 k v) := fun b j hb => by rw [pu_a hb, h b j hb]
theorem cm_step {u q j to d : Nat} {nm : Nat → Int32} {e : Nat → Nat} {J0 J : mh_I} {St : Nat → Int32} {k : mh_I → Option (Int32 × mh_I)} (hu : u < 6) (hq : q < 3) (hj : j < to) (hto : to ≤ 160) (hd : d ≤ 40) (hr : J0 0 9 = nI u) (hst : J0 7 (4 * u + q + 1) = nI to) (hcd : J0 6 (200 * u + j) = nI (e j)) (hnm : ∀ i, i < 6 → J0 16 i = nm i) (hf : fr15 J0 J) (hs : ∀ i, i < d → J 15 i = St i) (hok : oOk (e j) d) (f : Nat) : ∃ J', X6_worth_l16 (nI q) k (f + 1) (nI d) (nI j) J = X6_worth_l16 (nI q) k f (nI (oD (e j) d)) (nI (j + 1)) J' ∧ fr15 J0 J' ∧ (∀ i, i < oD (e j) d → J' 15 i = oS nm (e j) d St i) := by
  have e1 := (hf 0 9 (by decide)).trans hr
  have e2 := (hf 7 (4 * u + q + 1) (by decide)).trans hst
  have e3 := (hf 6 (200 * u + j) (by decide)).trans hcd
  have hub : ∃ op, e j = op := ⟨_, rfl⟩
  obtain ⟨op, hop⟩ := hub
  rw [hop] at e3 hok ⊢
  have hop31 : op < 110000 := by unfold oOk at hok; omega
  rw [X6_worth_l16, e1]
  simp (disch := omega) only [pn_mr, nI_add, pn_al, px_ix, e2, e3, pn_le, if_neg, pj_j, pj_b, pn_er, pn_ll]
  rcases hok with ⟨h, hd'⟩ | ⟨h, hd'⟩ | ⟨h, hd'⟩
  · have hl : op < 6 ∨ 100000 ≤ op := by omega
    refine ⟨mh_u J 15 d (oVal nm op), ?_, fr15_u hf _ _, fun i hi => ?_⟩
    · rw [oD, if_pos hl, oVal]
      rcases h with h | h
      · simp (disch := omega) only [if_neg, px_ix, if_pos]
        rw [hf 16 op (by decide), hnm op h]
      · simp (disch := omega) only [if_pos, px_ix, pn_sl, if_neg]
    · rw [oS, if_pos hl]
      by_cases ei : i = d
      · subst ei; rw [pu_s, if_pos rfl]
      · rw [pu_k ei, if_neg ei, hs i (by rw [oD, if_pos hl] at hi; omega)]
  · have hl : ¬ (op < 6 ∨ 100000 ≤ op) := by omega
    refine ⟨mh_u J 15 (d - 1) (oU op (St (d - 1))), ?_, fr15_u hf _ _, fun i hi => ?_⟩
    · rw [oD, if_neg hl, if_pos h, oU]
      rcases h with rfl | rfl
      · simp (disch := omega) only [if_neg, if_pos, px_ix, pn_sl, hs, if_true, if_false]
        by_cases hz : St (d - 1) = 0
        · simp only [hz, if_true]
        · simp only [hz, if_false]
      · simp (disch := omega) only [if_neg, if_pos, px_ix, pn_sl, hs, if_true, if_false]
    · rw [oS, if_neg hl, if_pos h]
      by_cases ei : i = d - 1
      · subst ei; rw [pu_s, if_pos rfl]
      · rw [pu_k ei, if_neg ei, hs i (by rw [oD, if_neg hl, if_pos h] at hi; omega)]
  · have hl : ¬ (op < 6 ∨ 100000 ≤ op) := by omega
    have hu' : ¬ (op = 13 ∨ op = 19) := by omega
    obtain ⟨d, rfl⟩ : ∃ d', d = d' + 2 := ⟨d - 2, by omega⟩
    refine ⟨mh_u J 15 d (oB op (St d) (St (d + 1))), ?_, fr15_u hf _ _, fun i hi => ?_⟩
    · rw [oD, if_neg hl, if_neg hu']
      have h100 : ¬ 100000 ≤ op := by omega
      have h11 : 11 ≤ op := by omega
      have h13 : ¬ op = 13 := by omega
      have h19 : ¬ op = 19 := by omega
      rw [if_neg h100, if_pos h11, if_neg h13, if_neg h19, show d + 2 = (d + 1) + 1 from rfl, pk_m1, nI_pred]
      simp (disch := omega) only [px_ix, hs]
      rw [xt_two h, po_b]
      rfl
    · rw [oS, if_neg hl, if_neg hu']
      show _ = if i = d then oB op (St d) (St (d + 1)) else St i
      by_cases ei : i = d
      · subst ei; rw [pu_s, if_pos rfl]
      · rw [pu_k ei, if_neg ei, hs i (by rw [oD, if_neg hl, if_neg hu'] at hi; omega)]
theorem cm_worth {u q : Nat} {nm : Nat → Int32} {e o : Nat → Nat} {J : mh_I} (hu : u < 6) (hq : q < 3) (hr : J 0 9 = nI u) (hT : tok e o) (hE : renc u J e o) (hnm : ∀ i, i < 6 → J 16 i = nm i) : ∃ J', X6_worth (nI q) J = some (exn e nm (o (q + 1) - o q) (o q) 0 (fun _ => 0), J') ∧ fr15 J J' := by
  have hle := tok_le hT hq
  have ho := hT.2.2.2.2.1
  have hw := hT.2.2.2.2.2 q hq
  have hst : J 7 (4 * u + q + 1) = nI (o (q + 1)) := hE.2 (q + 1) (by omega)
  obtain ⟨F, hF, eF⟩ := fuel_ex
  unfold X6_worth
  rw [hr, eF]
  simp (disch := omega) only [pn_mr, nI_add, px_ix, pj_b, hE.2]
  refine pl_up (fun f j (s : Nat × mh_I) => X6_worth_l16 (nI q) (fun (I46 : mh_I) => some ((I46 15 0), I46)) f (nI s.1) j s.2) (o (q + 1)) (fun r => ∃ J', r = some (exn e nm (o (q + 1) - o q) (o q) 0 (fun _ => 0), J') ∧ fr15 J J') (fun j s => fr15 J s.2 ∧ s.1 ≤ 40 ∧ ∃ St, (∀ i, i < s.1 → s.2 15 i = St i) ∧ wfn e (o (q + 1) - j) j s.1 1 ∧ exn e nm (o (q + 1) - j) j s.1 St = exn e nm (o (q + 1) - o q) (o q) 0 (fun _ => 0)) ?_ ?_ F (o q) (0, J) hle.1 (by omega) ⟨fr15_r J, Nat.zero_le 40, fun _ => 0, fun i hi => absurd hi (Nat.not_lt_zero i), hw, rfl⟩
  · rintro f ⟨d, J1⟩ ⟨hf, hd, St, hs, hw1, hx⟩
    rw [Nat.sub_self] at hw1 hx
    have hd1 : d = 1 := hw1
    subst hd1
    refine ⟨J1, ?_, hf⟩
    show X6_worth_l16 (nI q) _ (f + 1) (nI 1) (nI (o (q + 1))) J1 = _
    have hf : fr15 J J1 := hf
    have hs : ∀ i, i < 1 → J1 15 i = St i := hs
    rw [X6_worth_l16, hf 0 9 (by decide), hr]
    simp (disch := omega) only [pn_mr, nI_add, pn_al, px_ix]
    rw [hf 7 _ (by decide), hst, if_pos (Int32.le_refl _), ← hx, exn, hs 0 (by decide)]
  · rintro f j ⟨d, J1⟩ hj ⟨hf, hd, St, hs, hw1, hx⟩
    left
    have hn : o (q + 1) - j = (o (q + 1) - (j + 1)) + 1 := by omega
    rw [hn] at hw1 hx
    obtain ⟨J2, g1, g2, g3⟩ := cm_step (k := fun (I46 : mh_I) => some ((I46 15 0), I46)) hu hq hj (by omega) hd hr hst (hE.1 j (by omega)) hnm hf hs hw1.1 f
    refine ⟨(oD (e j) d, J2), ⟨g2, ?_, _, g3, hw1.2, hx⟩, g1⟩
    show oD (e j) d ≤ 40
    have := hw1.1
    unfold oD
    unfold oOk at this
    split <;> (try split) <;> omega
def fr16 (J J' : mh_I) : Prop := ∀ b k, b ≠ 15 → b ≠ 16 → J' b k = J b k
theorem cm_asks {u q c m : Nat} {K M : Nat → Nat} {N : Nat → Bool} {e o : Nat → Nat} {J : mh_I} (hu : u < 6) (hq : q < 3) (hc : c < 48) (hr : J 0 9 = nI u) (hT : tok e o) (hE : renc u J e o) (h1 : J 1 c = nI (K c)) (hk : K c < 6) (h2 : J 2 c = nI (M c)) (h4 : J 4 c = nI (qb N c)) : ∃ J', X6_asksOf (nI q) (nI c) (nI m) J = some (nI (sd e o K M N q c m), J') ∧ fr16 J J' := by
  unfold X6_asksOf
  simp (disch := omega) only [px_ix, pn_dv, pn_rm]
  have r1 : ∀ I : mh_I, (∀ k, I 1 k = J 1 k) → I 1 c = nI (K c) := fun I h => (h c).trans h1
  rw [show (mh_u (mh_u (mh_u (mh_u J 16 0 (nI (c / 6))) 16 1 (nI (c % 6))) 16 2 (mh_u (mh_u J 16 0 (nI (c / 6))) 16 1 (nI (c % 6)) 2 c)) 16 3 (nI m) 1 c) = nI (K c) by
    rw [pu_a (by decide), pu_a (by decide), pu_a (by decide), pu_a (by decide), h1], qface_6 _ hk, po_b]
  have r2 : (mh_u (mh_u J 16 0 (nI (c / 6))) 16 1 (nI (c % 6)) 2 c) = nI (M c) := by
    rw [pu_a (by decide), pu_a (by decide), h2]
  rw [r2]
  have r3 : (mh_u (mh_u (mh_u (mh_u (mh_u J 16 0 (nI (c / 6))) 16 1 (nI (c % 6))) 16 2 (nI (M c))) 16 3 (nI m)) 16 4 (nI (if K c = 1 then 1 else 0)) 4 c) = nI (qb N c) := by
    rw [pu_a (by decide), pu_a (by decide), pu_a (by decide), pu_a (by decide), pu_a (by decide), h4]
  rw [r3]
  generalize hJ1 : mh_u (mh_u (mh_u (mh_u (mh_u (mh_u J 16 0 (nI (c / 6))) 16 1 (nI (c % 6))) 16 2 (nI (M c))) 16 3 (nI m)) 16 4 (nI (if K c = 1 then 1 else 0))) 16 5 (nI (qb N c)) = J1
  have f1 : ∀ b k, b ≠ 16 → J1 b k = J b k := by
    intro b k hb
    rw [← hJ1, pu_a hb, pu_a hb, pu_a hb, pu_a hb, pu_a hb, pu_a hb]
  have f2 : ∀ i, i < 6 → J1 16 i = nmv K M N c m i := by
    intro i hi
    rw [← hJ1]
    rcases (show i = 0 ∨ i = 1 ∨ i = 2 ∨ i = 3 ∨ i = 4 ∨ i = 5 by omega) with rfl | rfl | rfl | rfl | rfl | rfl <;> rfl
  obtain ⟨J2, g1, g2⟩ := cm_worth hu hq ((f1 0 9 (by decide)).trans hr) hT ⟨fun j hj => (f1 6 _ (by decide)).trans (hE.1 j hj), fun j hj => (f1 7 _ (by decide)).trans (hE.2 j hj)⟩ f2
  refine ⟨J2, ?_, fun b k h15 h16 => (g2 b k h15).trans (f1 b k h16)⟩
  rw [g1, po_b]
  show (X6_within _ 0 (nI 99)).bind _ = _
  rw [clampN_6 99 _ (by decide), po_b]
  rfl
