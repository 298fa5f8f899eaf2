/-! PURE: the law, whole -/
theorem sl_488 {sc : mh_Sc} {q F : Nat} (hq : q < 6) (hF : 100 < F) (k : Int64 → Option Int32) : L_law_l488 sc (nI q) k F (0 : Int64) (0 : Int32) = k (qS (fun i => decide (i % 6 = q))) := by
  have hfull : qS (fun i => decide (i / 6 < 8) && decide (i % 6 = q)) = qS (fun i => decide (i % 6 = q)) := qS_ext fun i hi => by rw [decide_eq_true (show i / 6 < 8 by omega), Bool.true_and]
  have hzero : (0 : Int64) = qS (fun i => decide (i / 6 < 0) && decide (i % 6 = q)) := by
    rw [qS_0]
    refine qS_ext fun i _ => ?_
    rw [decide_eq_false (Nat.not_lt_zero _), Bool.false_and]
  refine pl_up (fun f j s => L_law_l488 sc (nI q) k f s j) 8 (fun r => r = k (qS (fun i => decide (i % 6 = q)))) (fun j s => s = qS (fun i => decide (i / 6 < j) && decide (i % 6 = q))) ?_ ?_ F 0 0 (by omega) (by omega) hzero
  · intro f s hs
    show L_law_l488 sc (nI q) k (f + 1) s (nI 8) = _
    rw [L_law_l488, if_pos (by decide), hs, hfull]
  · intro f j s hj hs
    left
    refine ⟨_, rfl, ?_⟩
    show L_law_l488 sc (nI q) k (f + 1) s (nI j) = L_law_l488 sc (nI q) k f (qS (fun i => decide (i / 6 < j + 1) && decide (i % 6 = q))) (nI (j + 1))
    rw [L_law_l488]
    simp (disch := omega) only [pn_ll, if_neg, pn_mr, nI_add, pj_b, pn_al]
    rw [qS_sh (by omega), hs, p_col (by omega) hj]
theorem sl_532 {sc : mh_Sc} {hh q F : Nat} {L : mh_L} {R : Nat → Nat} (hq : q < 6) (hF : 100 < F) (hL : ∀ i, i < 48 → L hh i = dL (R i)) (hl : ∀ i, i < 48 → R i ≤ 100) (k : Int32 → Option Int32) : L_law_l532 sc hh (nI q) L k F (0 : Int32) (0 : Int32) = k (nI (qC (fun i => decide (0 < R i) && !(decide (i % 6 = q))) 48)) := by
  refine pl_up (fun f j s => L_law_l532 sc hh (nI q) L k f s j) 48 (fun r => r = k (nI (qC (fun i => decide (0 < R i) && !(decide (i % 6 = q))) 48))) (fun j s => s = nI (qC (fun i => decide (0 < R i) && !(decide (i % 6 = q))) j)) ?_ ?_ F 0 0 (by omega) (by omega) rfl
  · intro f s hs
    show L_law_l532 sc hh (nI q) L k (f + 1) s (nI 48) = _
    rw [L_law_l532, if_pos (by decide), hs]
  · intro f j s hj hs
    left
    refine ⟨_, rfl, ?_⟩
    have hle := hl j hj
    show L_law_l532 sc hh (nI q) L k (f + 1) s (nI j) = L_law_l532 sc hh (nI q) L k f (nI (qC (fun i => decide (0 < R i) && !(decide (i % 6 = q))) (j + 1))) (nI (j + 1))
    rw [L_law_l532]
    simp (disch := omega) only [pn_ll, if_neg, px_ix, pj_j, pj_b, pn_al, pn_rm, pn_eq, hL, dL_lt]
    rw [hs, qC]
    by_cases c1 : j % 6 = q
    · simp only [c1, if_true, decide_true, Bool.not_true, Bool.and_false, Bool.false_eq_true, if_false, pn_al]
    · by_cases c2 : R j = 0
      · simp only [c1, c2, if_true, if_false, Nat.lt_irrefl, decide_false, Bool.false_and, Bool.false_eq_true, pn_al]
      · have : 0 < R j := by omega
        simp only [c1, c2, this, if_true, if_false, decide_false, decide_true, Bool.not_false, Bool.and_self, pn_al]
section REF
variable (I : mh_I) (L : mh_L)
theorem rf_r1 : X5_run (48 : Int32) (0 : Int32) (0 : Int32) I L = some (-5, I, L) := by unfold X5_run; rw [show X5_isLoop (48 : Int32) = some 0 by decide, po_b, if_pos rfl]
theorem rf_r2 : X5_run (0 : Int32) (100 : Int32) (0 : Int32) I L = some (-7, I, L) := by unfold X5_run; rw [show X5_isLoop (0 : Int32) = some 1 by decide, po_b, if_neg (by decide), show X5_isPull (100 : Int32) = some 0 by decide, po_b, if_pos rfl]
theorem rf_r3 : X5_run (0 : Int32) (0 : Int32) (4 : Int32) I L = some (-7, I, L) := by unfold X5_run; rw [show X5_isLoop (0 : Int32) = some 1 by decide, po_b, if_neg (by decide), show X5_isPull (0 : Int32) = some 1 by decide, po_b, if_neg (by decide), show X5_within (4 : Int32) (0 : Int32) (3 : Int32) = some 0 by decide, po_b, if_pos rfl]
theorem rf_g1 : X5_goes (48 : Int32) (0 : Int32) (0 : Int32) I L = some (-4611686018427387904, I, L) := by unfold X5_goes; rw [show X5_isLoop (48 : Int32) = some 0 by decide, po_b, if_pos rfl]
theorem rf_g2 : X5_goes (0 : Int32) (-1 : Int32) (0 : Int32) I L = some (-4611686018427387904, I, L) := by unfold X5_goes; rw [show X5_isLoop (0 : Int32) = some 1 by decide, po_b, if_neg (by decide), show X5_isPull (-1 : Int32) = some 0 by decide, po_b, if_pos rfl]
theorem rf_g3 : X5_goes (0 : Int32) (0 : Int32) (2 : Int32) I L = some (-4611686018427387904, I, L) := by unfold X5_goes; rw [show X5_isLoop (0 : Int32) = some 1 by decide, po_b, if_neg (by decide), show X5_isPull (0 : Int32) = some 1 by decide, po_b, if_neg (by decide), show X5_within (2 : Int32) (0 : Int32) (1 : Int32) = some 0 by decide, po_b, if_pos rfl]
theorem rf_l1 : X5_left (0 : Int32) (0 : Int32) (48 : Int32) I L = some (-5, I, L) := by unfold X5_left; rw [show X5_isLoop (0 : Int32) = some 1 by decide, po_b, if_neg (by decide), show X5_isLoop (48 : Int32) = some 0 by decide, po_b, if_pos rfl]
theorem rf_l2 : X5_left (0 : Int32) (100 : Int32) (0 : Int32) I L = some (-7, I, L) := by unfold X5_left; rw [show X5_isLoop (0 : Int32) = some 1 by decide, po_b, if_neg (by decide), po_b, if_neg (by decide), show X5_isPull (100 : Int32) = some 0 by decide, po_b, if_pos rfl]
theorem rf_c1 : X5_column (6 : Int32) (0 : Int32) (0 : Int32) I L = some (-5, I, L) := by unfold X5_column; rw [show X5_within (6 : Int32) (0 : Int32) (5 : Int32) = some 0 by decide, po_b, if_pos rfl]
theorem rf_c2 : X5_column (0 : Int32) (100 : Int32) (0 : Int32) I L = some (-7, I, L) := by unfold X5_column; rw [show X5_within (0 : Int32) (0 : Int32) (5 : Int32) = some 1 by decide, po_b, if_neg (by decide), show X5_isPull (100 : Int32) = some 0 by decide, po_b, if_pos rfl]
theorem rf_c3 : X5_column (0 : Int32) (0 : Int32) (2 : Int32) I L = some (-7, I, L) := by unfold X5_column; rw [show X5_within (0 : Int32) (0 : Int32) (5 : Int32) = some 1 by decide, po_b, if_neg (by decide), show X5_isPull (0 : Int32) = some 1 by decide, po_b, if_neg (by decide), show X5_within (2 : Int32) (0 : Int32) (1 : Int32) = some 0 by decide, po_b, if_pos rfl]
theorem rf_m1 : X5_mending (48 : Int32) (0 : Int32) (0 : Int32) I L = some (-5, I, L) := by unfold X5_mending; rw [show X5_isLoop (48 : Int32) = some 0 by decide, po_b, if_pos rfl]
theorem rf_m2 : X5_mending (0 : Int32) (0 : Int32) (2 : Int32) I L = some (-7, I, L) := by unfold X5_mending; rw [show X5_isLoop (0 : Int32) = some 1 by decide, po_b, if_neg (by decide), show X5_isPull (0 : Int32) = some 1 by decide, po_b, if_neg (by decide), show X5_within (2 : Int32) (0 : Int32) (1 : Int32) = some 0 by decide, po_b, if_pos rfl]
end REF
theorem mj_all {T : mh_I → mh_L → Option Int32} {g : (mh_I → mh_L → Option Int32) → Option Int32} (hT : ∀ I L, T I L = some 1) (hg : ∀ J, (∀ I L, J I L = some 1) → g J = some 1) : mh_j T g = some 1 := by
  rw [pj_j]
  exact hg T hT
theorem RH_RR {K : Nat → Nat} {P P' H : Nat → Bool} {rb : Nat → Nat → Nat} {c p : Nat} (h : ∀ i, P' i = (P i || H i)) : RH K P rb H c p = RR K P' rb c p := by
  have e : (fun i => H i || qkp K P i) = qkp K P' := by
    funext i
    unfold qkp
    rw [h i]
    cases H i <;> cases (K i == 5) <;> cases P i <;> rfl
  unfold RH RR
  rw [e]
theorem v_pin {L : mh_L} {P : Nat → Bool} (hP : L 1 2 = qS P) {a w : Nat} (ha : a < 48) (hw : w < 2) : X5_pin (nI a) (nI w) L = some (nI (qb P a), mh_ul L 1 2 (qS (fun i => if w = 1 then P i || decide (i = a) else P i && !decide (i = a)))) := by
  unfold X5_pin
  rw [il_ok a ha, po_b, if_neg (by decide), iw1_ok w hw, po_b, if_neg (by decide), hP, qS_has _ ha, po_b, qS_bit ha]
  simp only [pj_j, po_b, qS_or, qS_andn, qI0]
  unfold qb
  rcases (show w = 0 ∨ w = 1 by omega) with rfl | rfl
  · simp only [show (nI 0 = (1 : Int32)) = False by decide, if_false]
    cases P a <;> rfl
  · simp only [show (nI 1 = (1 : Int32)) = True by decide, if_true]
    cases P a <;> rfl
section LAW
variable {sc : mh_Sc} {hh u : Nat} {I : mh_I} {L : mh_L} {K M : Nat → Nat} {P N : Nat → Bool} {e o : Nat → Nat}
theorem XS_P (h : XS u I L K M P N e o) : L 1 2 = qS P := h.1.2.2.2.2.1
theorem XS_pin (h : XS u I L K M P N e o) {P' : Nat → Bool} : XS u I (mh_mx 46 (mh_ul L 1 2 (qS P')) L) K M P' N e o := by
  obtain ⟨⟨h1, h2, h3, h4, h5, h6, h7, h8, h9, h10⟩, k⟩ := h
  exact ⟨⟨h1, h2, h3, h4, by rw [mh_mx_lo (by decide), pul_s], by rw [mh_mx_lo (by decide), pul_k (by decide)]; exact h6, h7, h8, h9, h10⟩, k⟩
theorem sl_l43' (h46 : 46 ≤ hh) (hx : XS u I L K M P N e o) (hS : SCK sc K M P) (hA : SCA sc K M N e o) {c0 p F : Nat} (hc0 : c0 < 48) (hp : p < 100) (hF : 1000 < F) (eF : mh_fuel = F) {k465 : mh_I → mh_L → Option Int32} {Q : Option Int32 → Prop} (hQ : ∀ I' L', XS u I' L' K M P N e o → Q (k465 I' L')) : Q (L_law_l43 sc hh (nI c0) (nI p) k465 F (0 : Int32) I L) := by
  obtain ⟨I', L', h1, h2⟩ := sl_l43 h46 hx hS hA hc0 hp hF eF k465
  rw [h1]
  exact hQ I' L' h2
set_option maxHeartbeats 1000000 in
theorem sl_law (h46 : 46 ≤ hh) (hx : XS u I L K M P N e o) (hs : sc.1 ≤ 260) (hS : SCK sc K M P) (hA : SCA sc K M N e o) : L_law sc hh I L = some (1 : Int32) := by
  obtain ⟨x9, e9⟩ := la_ex hs (show 9 < 2 ^ 31 by decide)
  have e9 : L_at sc (9 : Int32) = some x9 := e9
  obtain ⟨F, hF, eF⟩ := fuel_ex
  obtain ⟨j1, y1, z1⟩ := an_ex x9 (m := 63) (by decide)
  obtain ⟨j2, y2, z2⟩ := an_ex (x9 >>> ((6 : Int32) &&& 31)) (m := 127) (by decide)
  obtain ⟨j3, y3, z3⟩ := an_ex (x9 >>> ((13 : Int32) &&& 31)) (m := 7) (by decide)
  have z1 : x9 &&& (63 : Int32) = nI j1 := z1
  have z2 : (x9 >>> ((6 : Int32) &&& 31)) &&& (127 : Int32) = nI j2 := z2
  have z3 : (x9 >>> ((13 : Int32) &&& 31)) &&& (7 : Int32) = nI j3 := z3
  unfold L_law
  rw [eF, e9, po_b, pj_b, po_b, pj_b, z1, z2]
  rw [show mh_rem (nI j1) (48 : Int32) = nI (j1 % 48) from pn_rm (by omega) (by decide) (by decide), show mh_rem (nI j2) (100 : Int32) = nI (j2 % 100) from pn_rm (by omega) (by decide) (by decide)]
  have hc0 : j1 % 48 < 48 := Nat.mod_lt _ (by decide)
  have hp : j2 % 100 < 100 := Nat.mod_lt _ (by decide)
  generalize j1 % 48 = c0 at *
  generalize j2 % 100 = p at *
  refine sl_l43' (F := F) (Q := fun r => r = some (1 : Int32)) h46 hx hS hA hc0 hp (by omega) eF (fun I1 L1 h1 => ?_)
  rw [po_b, pj_b, z3, show mh_rem (nI j3) (6 : Int32) = nI (j3 % 6) from pn_rm (by omega) (by decide) (by decide)]
  have hq : j3 % 6 < 6 := Nat.mod_lt _ (by decide)
  generalize j3 % 6 = q at *
  rw [sl_488 hq (by omega)]
  obtain ⟨L2, r1, r2, r3, r4⟩ := sl_run (hh := hh) (L := L1) hS hA hp (rrN_run K (qkp K P) (fun i => decide (i % 6 = q)) p (rbf e o K M N))
  rw [r1, po_b]
  have h2 : XS u I1 L2 K M P N e o := XS_h h46 h1 r2
  have hl : ∀ i, i < 48 → colR K P (rbf e o K M N) q p i ≤ 100 := fun i hi => by
    have := run_le (rrN_run K (qkp K P) (fun i => decide (i % 6 = q)) p (rbf e o K M N)) i hi
    unfold colR
    omega
  rw [sl_532 (R := colR K P (rbf e o K M N) q p) hq (by omega) r3 hl]
  have hgn := gn_le (colR K P (rbf e o K M N) q p)
  obtain ⟨⟨Ia, La, a1, a2, a3⟩, -⟩ := v_col h2 hq hp
  have g3 := GS_mx (H := fun k => L2 hh k) h46 ⟨h2, fun k => rfl⟩ a2 a3
  have e3 : mh_mx 46 La L2 hh 48 = lN (gn (colR K P (rbf e o K M N) q p)) := (g3.2 48).trans r4
  rw [a1, po_b]
  dsimp only
  rw [e3, if_pos (lcmp0 (nI_l (by omega)))]
  generalize mh_mx 46 Ia I1 = I3 at *
  generalize mh_mx 46 La L2 = L3 at *
  obtain ⟨-, Ib, Lb, b1, b2, b3⟩ := v_col g3.1 hq hp
  have g4 := GS_mx h46 g3 b2 b3
  rw [b1, po_b]
  dsimp only
  rw [if_pos rfl]
  generalize mh_mx 46 Ib I3 = I4 at *
  generalize mh_mx 46 Lb L3 = L4 at *
  obtain ⟨v, hv, hpin⟩ := v_pins u K M P N e o hc0 hp (n := 2) (by decide)
  obtain ⟨Ic, Lc, c1, c2, c3⟩ := hpin I4 L4 g4.1 0 (by decide)
  have g5 := GS_mx h46 g4 c2 c3
  have c1 : X5_pinned (nI c0) (nI p) (2 : Int32) (0 : Int32) I4 L4 = some (v 0, Ic, Lc) := c1
  rw [c1, po_b, pj_b]
  dsimp only
  generalize mh_mx 46 Ic I4 = I5 at *
  generalize mh_mx 46 Lc L4 = L5 at *
  refine mj_all (fun I L => ?_) (fun J hJ => ?_)
  · simp only [rf_r1, rf_r2, rf_r3, rf_g1, rf_g2, rf_g3, rf_l1, rf_l2, rf_c1, rf_c2, rf_c3, rf_m1, rf_m2, po_b, mh_mx_self, if_true, lcmp0 rfl]
  · by_cases hv0 : v 0 ≤ 0
    · rw [if_pos hv0]
      exact hJ _ _
    · rw [if_neg hv0]
      obtain ⟨Id, Ld, d1, d2, d3⟩ := hpin I5 L5 g5.1 1 (by decide)
      have g6 := GS_mx h46 g5 d2 d3
      have d1 : X5_pinned (nI c0) (nI p) (2 : Int32) (1 : Int32) I5 L5 = some (v 1, Id, Ld) := d1
      rw [d1, po_b, pj_b]
      dsimp only
      generalize mh_mx 46 Id I5 = I6 at *
      generalize mh_mx 46 Ld L5 = L6 at *
      obtain ⟨Ie, Le, d1, d2, d3⟩ := hpin I6 L6 g6.1 2 (by decide)
      have g7 := GS_mx h46 g6 d2 d3
      have d1 : X5_pinned (nI c0) (nI p) (2 : Int32) (2 : Int32) I6 L6 = some (v 2, Ie, Le) := d1
      rw [d1, po_b, pj_b]
      dsimp only
      generalize mh_mx 46 Ie I6 = I7 at *
      generalize mh_mx 46 Le L6 = L7 at *
      rcases hv with hv | ⟨a, ha, w0, w1, w2, w3⟩ | ⟨a, b, ha, hb, w0, w1, w2, w3⟩
      · exact absurd hv hv0
      · have q1 := v_pin (XS_P g7.1) ha (show 1 < 2 by decide)
        have q1 : X5_pin (nI a) (1 : Int32) L7 = _ := q1
        rw [w1, w2, q1, po_b, pj_b]
        dsimp only
        have k1 := XS_pin g7.1 (P' := fun i => if 1 = 1 then P i || decide (i = a) else P i && !decide (i = a))
        generalize mh_mx 46 (mh_ul L7 1 2 (qS (fun i => if 1 = 1 then P i || decide (i = a) else P i && !decide (i = a)))) L7 = L8 at *
        rw [pj_j, if_neg (by decide)]
        dsimp only
        obtain ⟨If, Lf, f1, f2, f3⟩ := v_run0 k1 hc0 hp
        rw [f1, po_b]
        dsimp only
        have k2 := XS_fr k1 (xx_mx f2) (ll_mx f3)
        have hle : gn (RR K (fun i => if 1 = 1 then P i || decide (i = a) else P i && !decide (i = a)) (rbf e o K M N) c0 p) ≤ 2 := by
          rw [← RH_RR (P := P) (H := fun i => decide (i = a)) (fun i => by rw [if_pos rfl])]
          exact w3
        rw [if_pos (show nI _ ≤ (2 : Int32) from (nI_leI (b := 2) (by omega) (by decide)).mpr hle), pj_j, if_pos (by decide)]
        dsimp only
        have q2 := v_pin (XS_P k2) ha (qb_lt P a)
        rw [q2, po_b]
        exact hJ _ _
      · have q1 := v_pin (XS_P g7.1) ha (show 1 < 2 by decide)
        have q1 : X5_pin (nI a) (1 : Int32) L7 = _ := q1
        rw [w1, w2, q1, po_b, pj_b]
        dsimp only
        have k1 := XS_pin g7.1 (P' := fun i => if 1 = 1 then P i || decide (i = a) else P i && !decide (i = a))
        generalize mh_mx 46 (mh_ul L7 1 2 (qS (fun i => if 1 = 1 then P i || decide (i = a) else P i && !decide (i = a)))) L7 = L8 at *
        rw [pj_j, if_pos (nI_pos' (by omega))]
        have q3 := v_pin (XS_P k1) hb (show 1 < 2 by decide)
        have q3 : X5_pin (nI b) (1 : Int32) L8 = _ := q3
        rw [q3, po_b]
        dsimp only
        have k3 := XS_pin k1 (P' := fun i => if 1 = 1 then (if 1 = 1 then P i || decide (i = a) else P i && !decide (i = a)) || decide (i = b) else (if 1 = 1 then P i || decide (i = a) else P i && !decide (i = a)) && !decide (i = b))
        generalize mh_mx 46 (mh_ul L8 1 2 (qS (fun i => if 1 = 1 then (if 1 = 1 then P i || decide (i = a) else P i && !decide (i = a)) || decide (i = b) else (if 1 = 1 then P i || decide (i = a) else P i && !decide (i = a)) && !decide (i = b)))) L8 = L9 at *
        obtain ⟨If, Lf, f1, f2, f3⟩ := v_run0 k3 hc0 hp
        rw [f1, po_b]
        dsimp only
        have k2 := XS_fr k3 (xx_mx f2) (ll_mx f3)
        have hle : gn (RR K (fun i => if 1 = 1 then (if 1 = 1 then P i || decide (i = a) else P i && !decide (i = a)) || decide (i = b) else (if 1 = 1 then P i || decide (i = a) else P i && !decide (i = a)) && !decide (i = b)) (rbf e o K M N) c0 p) ≤ 2 := by
          rw [← RH_RR (P := P) (H := fun i => decide (i = a) || decide (i = b)) (fun i => by rw [if_pos rfl, if_pos rfl, Bool.or_assoc])]
          exact w3
        rw [if_pos (show nI _ ≤ (2 : Int32) from (nI_leI (b := 2) (by omega) (by decide)).mpr hle), pj_j, if_neg (nI_pos (by omega))]
        generalize mh_mx 46 Lf L9 = L10 at *
        generalize mh_mx 46 If I7 = I10 at *
        have q2 := v_pin (XS_P k2) hb (qb_lt (fun i => if 1 = 1 then P i || decide (i = a) else P i && !decide (i = a)) b)
        rw [q2, po_b]
        dsimp only
        have k4 := XS_P (XS_pin k2 (P' := fun i => if qb (fun i => if 1 = 1 then P i || decide (i = a) else P i && !decide (i = a)) b = 1 then (if 1 = 1 then (if 1 = 1 then P i || decide (i = a) else P i && !decide (i = a)) || decide (i = b) else (if 1 = 1 then P i || decide (i = a) else P i && !decide (i = a)) && !decide (i = b)) || decide (i = b) else (if 1 = 1 then (if 1 = 1 then P i || decide (i = a) else P i && !decide (i = a)) || decide (i = b) else (if 1 = 1 then P i || decide (i = a) else P i && !decide (i = a)) && !decide (i = b)) && !decide (i = b)))
        have q5 := v_pin k4 ha (qb_lt P a)
        rw [q5, po_b]
        exact hJ _ _
end LAW
