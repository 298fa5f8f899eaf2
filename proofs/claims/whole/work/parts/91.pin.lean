/-! PURE: pinned -/
theorem isRun_kp {K : Nat → Nat} {kp kp' D : Nat → Bool} {p : Nat} {rb : Nat → Nat → Nat} {R : Nat → Nat} (h : isRun K kp D p rb R) (e : ∀ i, i < 48 → kp i = kp' i) : isRun K kp' D p rb R := by
  intro c hc
  rw [h c hc, rSt, rSt, e c hc]
def RH (K : Nat → Nat) (P : Nat → Bool) (rb : Nat → Nat → Nat) (H : Nat → Bool) (c p : Nat) : Nat → Nat := rrN K (fun i => H i || qkp K P i) (fun i => decide (i = c)) p rb 48
theorem RH_run (K : Nat → Nat) (P : Nat → Bool) (rb : Nat → Nat → Nat) (H : Nat → Bool) (c p : Nat) : isRun K (fun i => H i || qkp K P i) (fun i => decide (i = c)) p rb (RH K P rb H c p) := by
  have key : ∀ n d, d < 48 → 48 ≤ n + d → rrN K (fun i => H i || qkp K P i) (fun i => decide (i = c)) p rb n d = rrN K (fun i => H i || qkp K P i) (fun i => decide (i = c)) p rb (n + 1) d := by
    intro n
    induction n with
    | zero => intro c h1 h2; omega
    | succ n ih =>
      intro d h1 h2
      exact rSt_ext (fun i hi hi2 => ih i hi2 (by omega))
  exact fun d hd => key 48 d hd (by omega)
theorem pin_mono {K : Nat → Nat} {kp kp' D : Nat → Bool} {p : Nat} {rb : Nat → Nat → Nat} {R R' : Nat → Nat} (h : isRun K kp D p rb R) (h' : isRun K kp' D p rb R') (hk : ∀ i, i < 48 → kp i = true → kp' i = true) : ∀ i, i < 48 → R' i = R i ∨ R' i = 0 := by
  have key : ∀ n i, i < 48 → 48 ≤ n + i → R' i = R i ∨ R' i = 0 := by
    intro n
    induction n with
    | zero => intro i h1 h2; omega
    | succ n ih =>
      intro i h1 h2
      rw [h i h1, h' i h1, rSt, rSt]
      cases hk' : kp' i
      · have hki : kp i = false := by
          cases hh : kp i
          · rfl
          · rw [hk i h1 hh] at hk'; cases hk'
        rw [hki]
        simp only [Bool.false_eq_true, if_false]
        cases hD : D i
        · simp only [Bool.false_eq_true, if_false]
          have hA : rA K R' i = rA K R i ∨ rA K R' i = 0 := by
            unfold rA
            by_cases h42 : i < 42
            · have i1 := ih (i + 6) (by omega) (by omega)
              have i2 := ih (pnb i + 6) (by unfold pnb; omega) (by unfold pnb; omega)
              rw [if_pos h42, if_pos h42]
              generalize R' (i + 6) = x1 at *
              generalize R (i + 6) = x2 at *
              generalize R' (pnb i + 6) = x3 at *
              generalize R (pnb i + 6) = x4 at *
              cases qO (K (i + 6)) <;> cases qX (K (pnb i + 6)) <;> simp only [Bool.false_eq_true, if_false, if_true]
              · exact .inl trivial
              · exact i2
              · exact i1
              · by_cases z : x1 = 0 ∨ x3 = 0
                · rw [if_pos z]; exact .inr rfl
                · rw [if_neg z]
                  have e1 : x1 = x2 := by omega
                  have e2 : x3 = x4 := by omega
                  subst e1 e2
                  rw [if_neg z]; exact .inl rfl
            · rw [if_neg h42]; exact .inr rfl
          rcases hA with e | e
          · rw [e]; exact .inl rfl
          · rw [e, if_neg (by omega)]; exact .inr rfl
        · simp only [if_true]; exact .inl trivial
      · simp only [if_true]; exact .inr trivial
  exact fun i hi => key 48 i hi (by omega)
theorem pin_same {K : Nat → Nat} {kp kp' D : Nat → Bool} {p : Nat} {rb : Nat → Nat → Nat} {R R' : Nat → Nat} {a : Nat} (h : isRun K kp D p rb R) (h' : isRun K kp' D p rb R') (hk : ∀ i, i < 48 → i ≠ a → kp i = kp' i) (ha : a < 48) (hka : kp' a = true) (h0 : R a = 0) : ∀ i, i < 48 → R' i = R i := by
  have key : ∀ n i, i < 48 → 48 ≤ n + i → R' i = R i := by
    intro n
    induction n with
    | zero => intro i h1 h2; omega
    | succ n ih =>
      intro i h1 h2
      by_cases e : i = a
      · subst e
        rw [h0, h' i h1, rSt, hka, if_pos rfl]
      · rw [h i h1, h' i h1, rSt, rSt, hk i h1 e, rA_ext (fun x hx hx2 => ih x hx2 (by omega))]
  exact fun i hi => key 48 i hi (by omega)
theorem gn_ext {R R' : Nat → Nat} (h : ∀ i, i < 48 → R' i = R i) : gn R' = gn R := qC_ext (fun i hi => by rw [h i hi])
theorem px_pin {I : mh_I} {L : mh_L} {J : mh_I} {K M : Nat → Nat} {P N : Nat → Bool} {u : Nat} {e o : Nat → Nat} (h : R2 I L J K M P N u e o) (H : Nat → Bool) {c p : Nat} (hc : c < 48) (hp : p < 100) : ∃ I' L', X5_dropPinned (nI c) (nI p) (qS H) I L = some (nI (gn (RH K P (rbf e o K M N) H c p)), I', L') ∧ ranX I' L' K (RH K P (rbf e o K M N) H c p) ∧ xx I I' ∧ ll L L' := by
  have hu : u < 6 := h.1.2.2.2.2.2.2.1
  obtain ⟨I', L', a1, a2, a3, a4, a5, a6⟩ := cx_run h.1 hp (RH_run K P (rbf e o K M N) H c p)
  refine ⟨I', L', ?_, ⟨a2, a3, a4⟩, xx_x hu a5, ll_l a6⟩
  unfold X5_dropPinned
  rw [X5_law_ok h.2.2 hu, po_b, qS_bit hc, po_b, a1]
  rfl
theorem pm_pin {I : mh_I} {L : mh_L} {J J1 : mh_I} {K M : Nat → Nat} {P N : Nat → Bool} {u : Nat} {e o : Nat → Nat} (h : R2 I L J K M P N u e o) (H : Nat → Bool) {c p n : Nat} (hc : c < 48) (hp : p < 100) (hn : n < 2 ^ 31) (hJ : ∀ b k, b ≠ 3 → ¬ (14 ≤ b ∨ (b = 0 ∧ 17 ≤ k)) → J1 b k = J b k) (h3 : ∀ i, i < 48 → J1 3 i = nI (qb (fun i => P i || H i) i)) : ∃ J', X6_isHeld (nI c) (nI p) (nI n) J1 = some (if n < gn (RH K P (rbf e o K M N) H c p) then 0 else 1, J') ∧ jj J1 J' := by
  obtain ⟨-, ⟨g1, g2, g3, g4, g5, g6, g7, g8, g9, g10, g11⟩, -⟩ := h
  have hS : rStt u J1 K M (fun i => P i || H i) N e o := ⟨fun c hc => (hJ 1 c (by omega) (by omega)).trans (g1 c hc), g2, fun c hc => (hJ 2 c (by omega) (by omega)).trans (g3 c hc), g4, h3, fun c hc => (hJ 4 c (by omega) (by omega)).trans (g6 c hc), g7, (hJ 0 9 (by omega) (by omega)).trans g8, g9, fun j hj => (hJ _ _ (by omega) (by omega)).trans (g10 j hj), fun q hq => (hJ _ _ (by omega) (by omega)).trans (g11 q hq)⟩
  have hr := isRun_kp (kp' := qkp K (fun i => P i || H i)) (RH_run K P (rbf e o K M N) H c p) (fun i _ => by
    unfold qkp
    dsimp only
    cases H i <;> cases (K i == 5) <;> cases P i <;> rfl)
  obtain ⟨J', b1, b2, b3, b4⟩ := cm_run hS hp hr
  refine ⟨J', ?_, jj_j b4⟩
  have hgl := gn_le (RH K P (rbf e o K M N) H c p)
  unfold X6_isHeld X6_runsFrom
  rw [qS_sh hc, b1, po_b, po_b, b3]
  show (if nI n < nI (gn (RH K P (rbf e o K M N) H c p)) then _ else _) = _
  by_cases hlt : n < gn (RH K P (rbf e o K M N) H c p)
  · rw [if_pos hlt, if_pos (nI_lt hlt (by omega))]
  · rw [if_neg hlt, if_neg (nI_nlt (by omega) hn)]
theorem pu_back {J1 J2 : mh_I} {J : mh_I} {k : Nat} {v : Int32} (h1 : jj (mh_u J 3 k v) J1) (h2 : J2 = mh_u J1 3 k (J 3 k)) : jj J J2 := by
  subst h2
  intro b i hb
  by_cases e : b = 3 ∧ i = k
  · obtain ⟨rfl, rfl⟩ := e
    rw [pu_s]
  · have : mh_u J1 3 k (J 3 k) b i = J1 b i := if_neg e
    rw [this, h1 b i hb]
    exact if_neg e
theorem qb_eq {P Q : Nat → Bool} {i j : Nat} (h : P i = Q j) : qb P i = qb Q j := by
  unfold qb
  rw [h]
theorem l77_0 {u1 u2 u3 u6 u5 u8 : Int32} {k : Int32 → mh_I → Option (Int32 × mh_I)} {f : Nat} {I : mh_I} : X6_pinsFor_l77 u1 u2 u3 0 u6 k (f + 1) u5 u8 I = k u5 I := by
  rw [X6_pinsFor_l77]
  split
  · rfl
  · split
    · rfl
    · rw [if_pos rfl]
theorem l77_d {u1 u2 u3 u4 u6 u5 u8 : Int32} {k : Int32 → mh_I → Option (Int32 × mh_I)} {f : Nat} {I : mh_I} (h : ¬ u5 = -1) : X6_pinsFor_l77 u1 u2 u3 u4 u6 k (f + 1) u5 u8 I = k u5 I := by
  rw [X6_pinsFor_l77]
  split
  · rfl
  · split
    · rfl
    · split
      · rfl
      · rfl
theorem l6_d {u1 u2 u3 u4 u5 u6 : Int32} {f : Nat} {I : mh_I} (h : ¬ u5 = -1) : X6_pinsFor_l6 u1 u2 u3 u4 (f + 1) u5 u6 I = some (u5, I) := by
  rw [X6_pinsFor_l6]
  split
  · rfl
  · rfl
theorem p_one {I0 : mh_I} {L0 : mh_L} {J0 : mh_I} {K M : Nat → Nat} {P N : Nat → Bool} {u : Nat} {e o : Nat → Nat} (h : R2 I0 L0 J0 K M P N u e o) {c p n F : Nat} (hc : c < 48) (hp : p < 100) (hn : n ≤ 48) (hF : 1000 < F) (eF : mh_fuel = F) (hbase : n < gn (RH K P (rbf e o K M N) (fun _ => false) c p)) (k1 : Int32 → mh_I → mh_L → Option (Int32 × mh_I × mh_L)) (k2 : mh_I → mh_L → Option (Int32 × mh_I × mh_L)) :
    (∃ a I' L' J', a < 48 ∧ X5_pinned_l83 (nI c) (nI p) (nI n) (qS (fun i => decide (0 < RH K P (rbf e o K M N) (fun _ => false) c p i) && !decide (i = c))) k1 k2 F (nI 0) I0 L0 = k1 (nI a) I' L' ∧ X6_pinsFor (nI c) (nI p) (nI n) 0 J0 = some (nI (100 * a + 99), J') ∧ xx I0 I' ∧ ll L0 L' ∧ jj J0 J') ∨
    (∃ I' L' J', X5_pinned_l83 (nI c) (nI p) (nI n) (qS (fun i => decide (0 < RH K P (rbf e o K M N) (fun _ => false) c p i) && !decide (i = c))) k1 k2 F (nI 0) I0 L0 = k2 I' L' ∧ X6_pinsFor (nI c) (nI p) (nI n) 0 J0 = some (-1, J') ∧ xx I0 I' ∧ ll L0 L' ∧ jj J0 J' ∧ ∀ a, a < 48 → a ≠ c → n < gn (RH K P (rbf e o K M N) (fun i => decide (i = a)) c p)) := by
  obtain ⟨F1, rfl⟩ : ∃ F1, F = F1 + 1 := ⟨F - 1, by omega⟩
  obtain ⟨F2, rfl⟩ : ∃ F2, F1 = F2 + 1 := ⟨F1 - 1, by omega⟩
  unfold X6_pinsFor
  rw [eF]
  refine pl_2 (fun f j (s : mh_I × mh_L) => X5_pinned_l83 (nI c) (nI p) (nI n) (qS (fun i => decide (0 < RH K P (rbf e o K M N) (fun _ => false) c p i) && !decide (i = c))) k1 k2 (f + 1) (nI j) s.1 s.2) (fun f j (t : mh_I) => X6_pinsFor_l6 (nI c) (nI p) (nI n) 0 (f + 1) (-1) (nI j) t) 48 (fun r s => (∃ a I' L' J', a < 48 ∧ r = k1 (nI a) I' L' ∧ s = some (nI (100 * a + 99), J') ∧ xx I0 I' ∧ ll L0 L' ∧ jj J0 J') ∨ (∃ I' L' J', r = k2 I' L' ∧ s = some (-1, J') ∧ xx I0 I' ∧ ll L0 L' ∧ jj J0 J' ∧ ∀ a, a < 48 → a ≠ c → n < gn (RH K P (rbf e o K M N) (fun i => decide (i = a)) c p))) (fun j s t => xx I0 s.1 ∧ ll L0 s.2 ∧ jj J0 t ∧ ∀ a, a < j → a ≠ c → n < gn (RH K P (rbf e o K M N) (fun i => decide (i = a)) c p)) ?_ ?_ (F2 + 1) 0 (I0, L0) J0 (by omega) (by omega) ⟨xx_r _, ll_r _, jj_r _, fun a ha => absurd ha (Nat.not_lt_zero a)⟩
  · rintro f ⟨I, L⟩ J ⟨w1, w2, w3, w4⟩
    dsimp only at w1 w2 w3 w4
    right
    refine ⟨I, L, J, ?_, ?_, w1, w2, w3, w4⟩
    · dsimp only
      rw [X5_pinned_l83, if_pos (show (48 : Int32) ≤ nI 48 by decide)]
    · rw [X6_pinsFor_l6, if_pos (show (48 : Int32) ≤ nI 48 by decide)]
  · rintro f j ⟨I, L⟩ J hj ⟨w1, w2, w3, w4⟩
    dsimp only at w1 w2 w3 w4
    have h' := R2_fr h w1 w2 w3
    have hP3 : ∀ i, i < 48 → J 3 i = nI (qb P i) := h'.2.1.2.2.2.2.1
    have eM : X6_pinsFor_l6 (nI c) (nI p) (nI n) 0 (f + 1 + 1) (-1) (nI j) J = if j = c then X6_pinsFor_l6 (nI c) (nI p) (nI n) 0 (f + 1) (-1) (nI (j + 1)) (mh_u (mh_u J 3 j 1) 3 j (J 3 j)) else (X6_isHeld (nI c) (nI p) (nI n) (mh_u J 3 j 1)).bind (fun q9 => X6_pinsFor_l6 (nI c) (nI p) (nI n) 0 (f + 1) (if q9.1 = 0 then -1 else nI (100 * j + 99)) (nI (j + 1)) (mh_u q9.2 3 j (J 3 j))) := by
      rw [X6_pinsFor_l6, eF]
      simp (disch := omega) only [pn_ll, if_neg, px_ix, pj_j, pj_b, pn_al, pn_eq, if_true, pn_mr, nI_add, l77_0]
      by_cases e : j = c
      · rw [if_pos e, if_pos e]
      · rw [if_neg e, if_neg e]
        congr 1
        funext q
        split
        · rfl
        · rfl
    by_cases ejc : j = c
    · left
      refine ⟨(I, L), mh_u (mh_u J 3 j 1) 3 j (J 3 j), ⟨w1, w2, jj_t w3 (pu_back (jj_r _) rfl), fun a ha hac => ?_⟩, ?_, ?_⟩
      · by_cases ea : a = j
        · subst ea; exact absurd ejc hac
        · exact w4 a (by omega) hac
      · dsimp only
        rw [X5_pinned_l83, qS_has _ hj, po_b]
        simp (disch := omega) only [pn_ll, if_neg, pj_j, pj_b, pn_al, qI0]
        rw [if_pos (by rw [decide_eq_true ejc]; simp)]
      · rw [eM, if_pos ejc]
    · obtain ⟨J', m1, m2⟩ := pm_pin (J1 := mh_u J 3 j 1) (n := n) h' (fun i => decide (i = j)) hc hp (by omega) (fun b k hb _ => pu_a hb) (fun i hi => by
        by_cases ei : i = j
        · subst ei
          rw [pu_s]
          unfold qb
          simp
          rfl
        · rw [pu_k ei, hP3 i hi]
          exact congrArg nI (qb_eq (show P i = (P i || decide (i = j)) by rw [decide_eq_false ei, Bool.or_false])))
      rw [eM, if_neg ejc, m1, po_b]
      dsimp only
      have hjj : jj J0 (mh_u J' 3 j (J 3 j)) := jj_t w3 (pu_back m2 rfl)
      by_cases ht : 0 < RH K P (rbf e o K M N) (fun _ => false) c p j
      · obtain ⟨I', L', d1, d2, d3, d4⟩ := px_pin h' (fun i => decide (i = j)) hc hp
        have hgl := gn_le (RH K P (rbf e o K M N) (fun i => decide (i = j)) c p)
        have eX : X5_pinned_l83 (nI c) (nI p) (nI n) (qS (fun i => decide (0 < RH K P (rbf e o K M N) (fun _ => false) c p i) && !decide (i = c))) k1 k2 (f + 1 + 1) (nI j) I L = if n < gn (RH K P (rbf e o K M N) (fun i => decide (i = j)) c p) then X5_pinned_l83 (nI c) (nI p) (nI n) (qS (fun i => decide (0 < RH K P (rbf e o K M N) (fun _ => false) c p i) && !decide (i = c))) k1 k2 (f + 1) (nI (j + 1)) I' L' else k1 (nI j) I' L' := by
          rw [X5_pinned_l83, qS_has _ hj, qS_bit hj]
          simp (disch := omega) only [po_b, d1, pn_ll, if_neg, pj_j, pj_b, pn_al, qI0, pn_lt]
          rw [if_neg (by rw [decide_eq_true ht, decide_eq_false ejc]; decide)]
        by_cases hlt : n < gn (RH K P (rbf e o K M N) (fun i => decide (i = j)) c p)
        · left
          rw [if_pos hlt, if_pos rfl]
          refine ⟨(I', L'), _, ⟨xx_t w1 d3, ll_t w2 d4, hjj, fun a ha hac => ?_⟩, ?_, rfl⟩
          · by_cases ea : a = j
            · subst ea; exact hlt
            · exact w4 a (by omega) hac
          · dsimp only
            rw [eX, if_pos hlt]
        · right
          rw [if_neg hlt, if_neg (show ¬ (1 : Int32) = 0 by decide), l6_d (by rw [pn_neg (by omega)]; exact id)]
          left
          refine ⟨j, I', L', _, hj, ?_, rfl, xx_t w1 d3, ll_t w2 d4, hjj⟩
          rw [eX, if_neg hlt]
      · have hsame : gn (RH K P (rbf e o K M N) (fun i => decide (i = j)) c p) = gn (RH K P (rbf e o K M N) (fun _ => false) c p) := gn_ext (pin_same (a := j) (RH_run K P (rbf e o K M N) (fun _ => false) c p) (RH_run K P (rbf e o K M N) (fun i => decide (i = j)) c p) (fun i _ hij => by
          rw [decide_eq_false hij]) hj (by rw [decide_eq_true rfl]; rfl) (by omega))
        left
        rw [hsame, if_pos hbase, if_pos rfl]
        refine ⟨(I, L), _, ⟨w1, w2, hjj, fun a ha hac => ?_⟩, ?_, rfl⟩
        · by_cases ea : a = j
          · subst ea; rw [hsame]; exact hbase
          · exact w4 a (by omega) hac
        · dsimp only
          rw [X5_pinned_l83, qS_has _ hj, po_b]
          simp (disch := omega) only [pn_ll, if_neg, pj_j, pj_b, pn_al, qI0]
          rw [if_pos (by rw [decide_eq_false ht]; rfl)]
