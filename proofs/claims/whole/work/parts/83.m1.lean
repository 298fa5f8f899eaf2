/-! PURE: methods over one run or many, in step -/
def RR (K : Nat → Nat) (P : Nat → Bool) (rb : Nat → Nat → Nat) (c p : Nat) : Nat → Nat := rrN K (qkp K P) (fun i => decide (i = c)) p rb 48
theorem RR_run (K : Nat → Nat) (P : Nat → Bool) (rb : Nat → Nat → Nat) (c p : Nat) : isRun K (qkp K P) (fun i => decide (i = c)) p rb (RR K P rb c p) := by
  have key : ∀ n d, d < 48 → 48 ≤ n + d → rrN K (qkp K P) (fun i => decide (i = c)) p rb n d = rrN K (qkp K P) (fun i => decide (i = c)) p rb (n + 1) d := by
    intro n
    induction n with
    | zero => intro c h1 h2; omega
    | succ n ih =>
      intro d h1 h2
      exact rSt_ext (fun i hi hi2 => ih i hi2 (by omega))
  exact fun d hd => key 48 d hd (by omega)
theorem pd_x {I : mh_I} {L : mh_L} {J : mh_I} {K M : Nat → Nat} {P N : Nat → Bool} {u : Nat} {e o : Nat → Nat} (h : R2 I L J K M P N u e o) {c p : Nat} (hc : c < 48) (hp : p < 100) : ∃ I' L', X5_drop (nI c) (nI p) I L = some (nI (gn (RR K P (rbf e o K M N) c p)), I', L') ∧ ranX I' L' K (RR K P (rbf e o K M N) c p) ∧ xx I I' ∧ ll L L' := by
  obtain ⟨I', L', a1, a2, a3, a4, a5, a6⟩ := cx_run (H := fun _ => false) h.1 hp (isRun_0 (RR_run K P (rbf e o K M N) c p))
  have hu : u < 6 := h.1.2.2.2.2.2.2.1
  refine ⟨I', L', ?_, ⟨a2, a3, a4⟩, xx_x hu a5, ll_l a6⟩
  unfold X5_drop
  rw [X5_law_ok h.2.2 hu, po_b, qS_bit hc, po_b, qS_0, a1]
  rfl
theorem pd_m {I : mh_I} {L : mh_L} {J : mh_I} {K M : Nat → Nat} {P N : Nat → Bool} {u : Nat} {e o : Nat → Nat} (h : R2 I L J K M P N u e o) {c p : Nat} (hc : c < 48) (hp : p < 100) : ∃ J', X6_runsFrom (nI c) (nI p) J = some J' ∧ ranM J' (RR K P (rbf e o K M N) c p) ∧ jj J J' := by
  obtain ⟨J', b1, b2, b3, b4⟩ := cm_run h.2.1 hp (RR_run K P (rbf e o K M N) c p)
  refine ⟨J', ?_, ⟨b2, b3⟩, jj_j b4⟩
  unfold X6_runsFrom
  rw [qS_sh hc, b1]
  rfl
theorem RR_le (K : Nat → Nat) (P : Nat → Bool) (rb : Nat → Nat → Nat) {c p : Nat} (hp : p < 100) : ∀ i, i < 48 → RR K P rb c p i ≤ 100 := fun i hi => by
  have := run_le (RR_run K P rb c p) i hi
  omega
theorem dIm {r : Nat} (h : r < 2 ^ 31) : (dI r = (-1 : Int32)) = (r = 0) := by
  cases r with
  | zero => exact propext ⟨fun _ => rfl, fun _ => rfl⟩
  | succ r => exact propext ⟨fun hh => absurd hh (by show ¬ nI r = -1; rw [pn_neg (by omega)]; exact id), fun hh => by omega⟩
theorem r_left : RS_left Rel := by
  intro T I L J a1 a2 a3 h
  unfold X5_left X6_left
  rcases pa_loop a1 with ⟨h5, h6⟩ | ⟨c, hc, rfl, h5, h6⟩
  · simp only [h5, h6, po_b, if_true]
    exact ⟨_, _, rfl, rfl, rfl, h⟩
  rcases pa_loop a3 with ⟨g5, g6⟩ | ⟨d, hd, rfl, g5, g6⟩
  · simp only [h5, h6, g5, g6, po_b, if_true, pz_10, if_false]
    exact ⟨_, _, rfl, rfl, rfl, h⟩
  rcases pa_pull a2 with ⟨k5, k6⟩ | ⟨p, hp, rfl, k5, k6⟩
  · simp only [h5, h6, g5, g6, k5, k6, po_b, if_true, pz_10, if_false]
    exact ⟨_, _, rfl, rfl, rfl, h⟩
  obtain ⟨-, ⟨K, M, P, N, u, n, hc1, -⟩, -⟩ := id h
  obtain ⟨e, o, h2⟩ := R2_of hc1
  obtain ⟨I', L', d1, d2, d3, d4⟩ := pd_x h2 hc hp
  obtain ⟨J', e1, e2, e3⟩ := pd_m h2 hc hp
  have hle := RR_le K P (rbf e o K M N) (c := c) hp d hd
  simp only [h5, h6, g5, g6, k5, k6, po_b, pz_10, if_false, d1, e1, d2.2.1, qS_has _ hd, qI0, px_ix hd (show 48 < 2 ^ 31 by decide), d2.1 d hd, e2.1 d hd]
  by_cases hz : 0 < RR K P (rbf e o K M N) c p d
  · rw [if_neg (by rw [decide_eq_true hz]; decide)]
    exact ⟨_, _, rfl, rfl, rfl, Rel_fr h d3 d4 e3⟩
  · rw [if_pos (by rw [decide_eq_false hz])]
    refine ⟨_, _, rfl, rfl, ?_, Rel_fr h d3 d4 e3⟩
    rw [show RR K P (rbf e o K M N) c p d = 0 by omega]
    rfl
theorem r_most : RS_most Rel := by
  intro T I L J a1 a2 h
  unfold X5_most X6_most
  rcases pa_pull a1 with ⟨h5, h6⟩ | ⟨p, hp, rfl, h5, h6⟩
  · simp only [h5, h6, po_b, if_true]
    exact ⟨_, _, rfl, rfl, rfl, h⟩
  rcases pa_rng a2 1 (n := 1) (by decide) with ⟨g5, g6, -⟩ | ⟨w, hw, rfl, g5, g6⟩
  · simp only [h5, h6, g5, g6, po_b, if_true, pz_10, if_false]
    exact ⟨_, _, rfl, rfl, rfl, h⟩
  obtain ⟨-, ⟨K, M, P, N, u, n, hc1, -⟩, -⟩ := id h
  obtain ⟨e, o, h2⟩ := R2_of hc1
  obtain ⟨F, hF, eF⟩ := fuel_ex
  simp only [h5, h6, g5, g6, po_b, pz_10, if_false, eF]
  refine pl_2 (fun f j (s : Int32 × Int32 × mh_I × mh_L) => X5_most_l27 (nI p) _ f s.1 s.2.1 (nI j) s.2.2.1 s.2.2.2) (fun f j (s : Int32 × Int32 × mh_I) => X6_most_l27 (nI p) _ f s.1 s.2.1 (nI j) s.2.2) 48 (fun a b => ∃ q r, a = some q ∧ b = some r ∧ q.1 = r.1 ∧ Rel T q.2.1 q.2.2 r.2) (fun j s t => s.1 = t.1 ∧ s.2.1 = t.2.1 ∧ xx I s.2.2.1 ∧ ll L s.2.2.2 ∧ jj J t.2.2) ?_ ?_ F 0 (0, -1, I, L) (0, -1, J) (by omega) (by omega) ⟨rfl, rfl, xx_r I, ll_r L, jj_r J⟩
  · rintro f ⟨b, m, I1, L1⟩ ⟨b', m', J1⟩ ⟨h1, h3, k1, k2, k3⟩
    dsimp only at h1 h3 k1 k2 k3
    subst h1 h3
    dsimp only
    rw [X5_most_l27, X6_most_l27, if_pos (show (48 : Int32) ≤ nI 48 by decide), if_pos (show (48 : Int32) ≤ nI 48 by decide)]
    by_cases hz : nI w = 0
    · simp only [hz, if_true]
      exact ⟨_, _, rfl, rfl, rfl, Rel_fr h k1 k2 k3⟩
    · simp only [hz, if_false]
      exact ⟨_, _, rfl, rfl, rfl, Rel_fr h k1 k2 k3⟩
  · rintro f j ⟨b, m, I1, L1⟩ ⟨b', m', J1⟩ hj ⟨h1, h3, k1, k2, k3⟩
    dsimp only at h1 h3 k1 k2 k3
    subst h1 h3
    left
    have h2' := R2_fr h2 k1 k2 k3
    obtain ⟨I', L', d1, d2, d3, d4⟩ := pd_x h2' hj hp
    obtain ⟨J', e1, e2, e3⟩ := pd_m h2' hj hp
    dsimp only
    rw [X5_most_l27, X6_most_l27]
    simp (disch := omega) only [pn_ll, if_neg, d1, e1, po_b, pj_b, pj_j, e2.2, pn_al]
    by_cases hm : nI (gn (RR K P (rbf e o K M N) j p)) ≤ m
    · refine ⟨(b, m, I', L'), (b, m, J'), ⟨rfl, rfl, xx_t k1 d3, ll_t k2 d4, jj_t k3 e3⟩, ?_, ?_⟩
      · rw [if_pos hm]
      · rw [if_pos hm, if_pos hm]
    · refine ⟨(nI j, nI (gn (RR K P (rbf e o K M N) j p)), I', L'), (nI j, nI (gn (RR K P (rbf e o K M N) j p)), J'), ⟨rfl, rfl, xx_t k1 d3, ll_t k2 d4, jj_t k3 e3⟩, ?_, ?_⟩
      · rw [if_neg hm]
      · simp only [hm, if_false]
theorem r_line : RS_line Rel := by
  intro T I L J a1 a2 h
  unfold X5_line X6_line
  rcases pa_loop a1 with ⟨h5, h6⟩ | ⟨c, hc, rfl, h5, h6⟩
  · simp only [h5, h6, po_b, if_true]
    exact ⟨_, _, rfl, rfl, rfl, h⟩
  rcases pa_rng a2 48 (n := 48) (by decide) with ⟨g5, g6, -⟩ | ⟨w, hw, rfl, g5, g6⟩
  · simp only [h5, h6, g5, g6, po_b, if_true, pz_10, if_false]
    exact ⟨_, _, rfl, rfl, rfl, h⟩
  obtain ⟨-, ⟨K, M, P, N, u, n, hc1, -⟩, -⟩ := id h
  obtain ⟨e, o, h2⟩ := R2_of hc1
  obtain ⟨F, hF, eF⟩ := fuel_ex
  simp only [h5, h6, g5, g6, po_b, pz_10, if_false, eF]
  refine pl_2 (fun f j (s : mh_I × mh_L) => X5_line_l25 (nI c) (nI w) f (nI j) s.1 s.2) (fun f j (s : mh_I) => X6_line_l25 (nI c) (nI w) f (nI j) s) 100 (fun a b => ∃ q r, a = some q ∧ b = some r ∧ q.1 = r.1 ∧ Rel T q.2.1 q.2.2 r.2) (fun j s t => xx I s.1 ∧ ll L s.2 ∧ jj J t) ?_ ?_ F 0 (I, L) J (by omega) (by omega) ⟨xx_r I, ll_r L, jj_r J⟩
  · rintro f ⟨I1, L1⟩ J1 ⟨k1, k2, k3⟩
    dsimp only
    rw [X5_line_l25, X6_line_l25, if_pos (by decide), if_pos (by decide)]
    exact ⟨_, _, rfl, rfl, rfl, Rel_fr h k1 k2 k3⟩
  · rintro f j ⟨I1, L1⟩ J1 hj ⟨k1, k2, k3⟩
    dsimp only at k1 k2 k3
    have h2' := R2_fr h2 k1 k2 k3
    obtain ⟨I', L', d1, d2, d3, d4⟩ := pd_x h2' hc hj
    obtain ⟨J', e1, e2, e3⟩ := pd_m h2' hc hj
    dsimp only
    rw [X5_line_l25, X6_line_l25]
    simp (disch := omega) only [pn_tl, if_neg, d1, e1, po_b, pj_b, e2.2, pn_al]
    by_cases hm : nI (gn (RR K P (rbf e o K M N) c j)) ≤ nI w
    · left
      refine ⟨(I', L'), J', ⟨xx_t k1 d3, ll_t k2 d4, jj_t k3 e3⟩, ?_, ?_⟩
      · rw [if_pos hm]
      · rw [if_pos hm]
    · right
      rw [if_neg hm, if_neg hm]
      exact ⟨_, _, rfl, rfl, rfl, Rel_fr h (xx_t k1 d3) (ll_t k2 d4) (jj_t k3 e3)⟩
theorem r_reach : RS_reach Rel := by
  intro T I L J a1 a2 h
  unfold X5_reach X6_reach
  rcases pa_loop a1 with ⟨h5, h6⟩ | ⟨c, hc, rfl, h5, h6⟩
  · simp only [h5, h6, po_b, if_true]
    exact ⟨_, _, rfl, rfl, rfl, h⟩
  rcases pa_loop a2 with ⟨g5, g6⟩ | ⟨d, hd, rfl, g5, g6⟩
  · simp only [h5, h6, g5, g6, po_b, if_true, pz_10, if_false]
    exact ⟨_, _, rfl, rfl, rfl, h⟩
  obtain ⟨-, ⟨K, M, P, N, u, n, hc1, -⟩, -⟩ := id h
  obtain ⟨e, o, h2⟩ := R2_of hc1
  obtain ⟨F, hF, eF⟩ := fuel_ex
  simp only [h5, h6, g5, g6, po_b, pz_10, if_false, eF]
  refine pl_2 (fun f j (s : mh_I × mh_L) => X5_reach_l19 (nI c) (nI d) f (nI j) s.1 s.2) (fun f j (s : mh_I) => X6_reach_l19 (nI c) (nI d) f (nI j) s) 100 (fun a b => ∃ q r, a = some q ∧ b = some r ∧ q.1 = r.1 ∧ Rel T q.2.1 q.2.2 r.2) (fun j s t => xx I s.1 ∧ ll L s.2 ∧ jj J t) ?_ ?_ F 0 (I, L) J (by omega) (by omega) ⟨xx_r I, ll_r L, jj_r J⟩
  · rintro f ⟨I1, L1⟩ J1 ⟨k1, k2, k3⟩
    dsimp only
    rw [X5_reach_l19, X6_reach_l19, if_pos (by decide), if_pos (by decide)]
    exact ⟨_, _, rfl, rfl, rfl, Rel_fr h k1 k2 k3⟩
  · rintro f j ⟨I1, L1⟩ J1 hj ⟨k1, k2, k3⟩
    dsimp only at k1 k2 k3
    have h2' := R2_fr h2 k1 k2 k3
    obtain ⟨I', L', d1, d2, d3, d4⟩ := pd_x h2' hc hj
    obtain ⟨J', e1, e2, e3⟩ := pd_m h2' hc hj
    have hle := RR_le K P (rbf e o K M N) (c := c) hj d hd
    dsimp only
    rw [X5_reach_l19, X6_reach_l19]
    simp (disch := omega) only [pn_tl, if_neg, d1, e1, po_b, pj_b, d2.2.1, qS_has, qI0, px_ix, e2.1, dIm, pn_al]
    by_cases hz : 0 < RR K P (rbf e o K M N) c j d
    · right
      rw [if_neg (by rw [decide_eq_true hz]; decide), if_neg (by omega)]
      exact ⟨_, _, rfl, rfl, rfl, Rel_fr h (xx_t k1 d3) (ll_t k2 d4) (jj_t k3 e3)⟩
    · left
      refine ⟨(I', L'), J', ⟨xx_t k1 d3, ll_t k2 d4, jj_t k3 e3⟩, ?_, ?_⟩
      · rw [if_pos (by rw [decide_eq_false hz])]
      · rw [if_pos (by omega)]
theorem r_all : RS_all Rel := by
  intro T I L J a1 h
  unfold X5_all X6_all
  rcases pa_loop a1 with ⟨h5, h6⟩ | ⟨c, hc, rfl, h5, h6⟩
  · simp only [h5, h6, po_b, if_true]
    exact ⟨_, _, rfl, rfl, rfl, h⟩
  obtain ⟨-, ⟨K, M, P, N, u, n, hc1, -⟩, -⟩ := id h
  obtain ⟨e, o, h2⟩ := R2_of hc1
  obtain ⟨F, hF, eF⟩ := fuel_ex
  obtain ⟨F1, rfl⟩ : ∃ F1, F = F1 + 1 := ⟨F - 1, by omega⟩
  obtain ⟨I0, L0, d1, d2, d3, d4⟩ := pd_x h2 hc (show 99 < 100 by decide)
  obtain ⟨J0, e1, e2, e3⟩ := pd_m h2 hc (show 99 < 100 by decide)
  have d1' : X5_drop (nI c) (99 : Int32) I L = _ := d1
  have e1' : X6_runsFrom (nI c) (99 : Int32) J = _ := e1
  simp only [h5, h6, po_b, pz_10, if_false, eF, d1', e1', pj_b, e2.2]
  generalize gn (RR K P (rbf e o K M N) c 99) = w
  refine pl_2 (fun f j (s : Int32 × mh_I × mh_L) => X5_all_l25 (nI c) (nI w) (f + 1) s.1 (dI (99 - j)) s.2.1 s.2.2) (fun f j (s : Int32 × mh_I) => X6_all_l32 (nI c) (nI w) (f + 1) s.1 1 (dI (99 - j)) s.2) 99 (fun a b => ∃ q r, a = some q ∧ b = some r ∧ q.1 = r.1 ∧ Rel T q.2.1 q.2.2 r.2) (fun j s t => s.1 = t.1 ∧ xx I s.2.1 ∧ ll L s.2.2 ∧ jj J t.2) ?_ ?_ F1 0 (99, I0, L0) (99, J0) (by omega) (by omega) ⟨rfl, d3, d4, e3⟩
  · rintro f ⟨b, I1, L1⟩ ⟨b', J1⟩ ⟨h1, k1, k2, k3⟩
    dsimp only at h1 k1 k2 k3
    subst h1
    dsimp only
    rw [X5_all_l25, X6_all_l32, if_pos (by decide), if_pos (by decide)]
    exact ⟨_, _, rfl, rfl, rfl, Rel_fr h k1 k2 k3⟩
  · rintro f j ⟨b, I1, L1⟩ ⟨b', J1⟩ hj ⟨h1, k1, k2, k3⟩
    dsimp only at h1 k1 k2 k3
    subst h1
    have h2' := R2_fr h2 k1 k2 k3
    obtain ⟨I', L', d1, d2, d3, d4⟩ := pd_x h2' hc (show 98 - j < 100 by omega)
    obtain ⟨J', e1, e2, e3⟩ := pd_m h2' hc (show 98 - j < 100 by omega)
    dsimp only
    rw [show dI (99 - j) = nI (98 - j) by rw [show 99 - j = (98 - j) + 1 by omega]; rfl, show 99 - (j + 1) = 98 - j by omega]
    rw [X5_all_l25, X6_all_l32]
    simp (disch := omega) only [pn_n0, pz_10, if_false, d1, e1, po_b, pj_b, pj_j, e2.2, dI_p]
    by_cases hm : nI (gn (RR K P (rbf e o K M N) c (98 - j))) < nI w
    · right
      simp only [hm, if_true]
      refine ⟨_, (b, J'), rfl, ?_, rfl, Rel_fr h (xx_t k1 d3) (ll_t k2 d4) (jj_t k3 e3)⟩
      rw [X6_all_l32]
      split
      · rfl
      · rfl
    · left
      refine ⟨(nI (98 - j), I', L'), (nI (98 - j), J'), ⟨rfl, xx_t k1 d3, ll_t k2 d4, jj_t k3 e3⟩, ?_, ?_⟩
      · simp only [hm, if_false]
      · simp only [hm, if_false, pz_10]
