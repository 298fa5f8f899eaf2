/-! PURE: pinned, by two -/
def tried (K : Nat → Nat) (P : Nat → Bool) (rb : Nat → Nat → Nat) (c p : Nat) : Nat → Bool := fun i => decide (0 < RH K P rb (fun _ => false) c p i) && !decide (i = c)
theorem pair_no {K : Nat → Nat} {P : Nat → Bool} {rb : Nat → Nat → Nat} {c p n a b : Nat} (ha : a < 48) (hb : b < 48) (hac : a ≠ c) (hbc : b ≠ c) (h1 : ∀ a, a < 48 → a ≠ c → n < gn (RH K P rb (fun i => decide (i = a)) c p)) (h0 : RH K P rb (fun _ => false) c p a = 0 ∨ RH K P rb (fun _ => false) c p b = 0) : n < gn (RH K P rb (fun i => decide (i = a) || decide (i = b)) c p) := by
  rcases h0 with h0 | h0
  · have m := pin_mono (RH_run K P rb (fun _ => false) c p) (RH_run K P rb (fun i => decide (i = b)) c p) (fun i _ h => by
      have h : (false || qkp K P i) = true := h
      show (decide (i = b) || qkp K P i) = true
      rw [Bool.false_or] at h
      rw [h, Bool.or_true]) a ha
    have hz : RH K P rb (fun i => decide (i = b)) c p a = 0 := by
      rcases m with m | m
      · rw [m, h0]
      · exact m
    rw [gn_ext (pin_same (a := a) (RH_run K P rb (fun i => decide (i = b)) c p) (RH_run K P rb (fun i => decide (i = a) || decide (i = b)) c p) (fun i _ hij => by
      rw [decide_eq_false hij, Bool.false_or]) ha (by rw [decide_eq_true rfl]; rfl) hz)]
    exact h1 b hb hbc
  · have m := pin_mono (RH_run K P rb (fun _ => false) c p) (RH_run K P rb (fun i => decide (i = a)) c p) (fun i _ h => by
      have h : (false || qkp K P i) = true := h
      show (decide (i = a) || qkp K P i) = true
      rw [Bool.false_or] at h
      rw [h, Bool.or_true]) b hb
    have hz : RH K P rb (fun i => decide (i = a)) c p b = 0 := by
      rcases m with m | m
      · rw [m, h0]
      · exact m
    rw [gn_ext (pin_same (a := b) (RH_run K P rb (fun i => decide (i = a)) c p) (RH_run K P rb (fun i => decide (i = a) || decide (i = b)) c p) (fun i _ hij => by
      rw [decide_eq_false hij, Bool.or_false]) hb (by rw [decide_eq_true rfl, Bool.or_true]; rfl) hz)]
    exact h1 a ha hac
theorem p_twoA {c p n a F : Nat} (ha : a < 48) {K : Nat → Nat} {P : Nat → Bool} {rb : Nat → Nat → Nat} (h0 : tried K P rb c p a = false) (hF : 1000 < F) (k1 : Int32 → mh_I → mh_L → Option (Int32 × mh_I × mh_L)) (k2 : mh_I → mh_L → Option (Int32 × mh_I × mh_L)) (I : mh_I) (L : mh_L) : X5_pinned_l159 (nI c) (nI p) (nI n) (qS (tried K P rb c p)) (nI a) k1 k2 F (nI (a + 1)) I L = k2 I L := by
  refine pl_up (fun f j (_ : Unit) => X5_pinned_l159 (nI c) (nI p) (nI n) (qS (tried K P rb c p)) (nI a) k1 k2 f j I L) 48 (fun r => r = k2 I L) (fun _ _ => True) ?_ ?_ F (a + 1) () (by omega) (by omega) trivial
  · intro f _ _
    show X5_pinned_l159 (nI c) (nI p) (nI n) (qS (tried K P rb c p)) (nI a) k1 k2 (f + 1) (nI 48) I L = _
    rw [X5_pinned_l159, if_pos (by decide)]
  · intro f j _ hj _
    left
    refine ⟨(), trivial, ?_⟩
    show X5_pinned_l159 (nI c) (nI p) (nI n) (qS (tried K P rb c p)) (nI a) k1 k2 (f + 1) (nI j) I L = X5_pinned_l159 (nI c) (nI p) (nI n) (qS (tried K P rb c p)) (nI a) k1 k2 f (nI (j + 1)) I L
    rw [X5_pinned_l159, qS_has _ ha]
    simp (disch := omega) only [po_b, pn_ll, if_neg, pj_j, pj_b, pn_al, qI0, h0, if_true]
theorem p_twoB {I0 : mh_I} {L0 : mh_L} {J0 Ja : mh_I} {K M : Nat → Nat} {P N : Nat → Bool} {u : Nat} {e o : Nat → Nat} (h : R2 I0 L0 J0 K M P N u e o) {c p n a F : Nat} (hc : c < 48) (hp : p < 100) (hn : n ≤ 48) (ha : a < 48) (hac : a ≠ c) (hF : 1000 < F) (eJa : Ja = mh_u J0 3 a 1) (h1 : ∀ a, a < 48 → a ≠ c → n < gn (RH K P (rbf e o K M N) (fun i => decide (i = a)) c p)) (k1 : Int32 → mh_I → mh_L → Option (Int32 × mh_I × mh_L)) (k2 : mh_I → mh_L → Option (Int32 × mh_I × mh_L)) (k3 : Int32 → mh_I → Option (Int32 × mh_I)) :
    (∃ b I' L' J', b < 48 ∧ X5_pinned_l159 (nI c) (nI p) (nI n) (qS (tried K P (rbf e o K M N) c p)) (nI a) k1 k2 F (nI (a + 1)) I0 L0 = k1 (nI b) I' L' ∧ X6_pinsFor_l77 (nI c) (nI p) (nI n) 1 (nI a) k3 F (-1) (nI (a + 1)) Ja = k3 (nI (100 * a + b)) J' ∧ xx I0 I' ∧ ll L0 L' ∧ jj Ja J') ∨
    (∃ I' L' J', X5_pinned_l159 (nI c) (nI p) (nI n) (qS (tried K P (rbf e o K M N) c p)) (nI a) k1 k2 F (nI (a + 1)) I0 L0 = k2 I' L' ∧ X6_pinsFor_l77 (nI c) (nI p) (nI n) 1 (nI a) k3 F (-1) (nI (a + 1)) Ja = k3 (-1) J' ∧ xx I0 I' ∧ ll L0 L' ∧ jj Ja J') := by
  obtain ⟨F1, rfl⟩ : ∃ F1, F = F1 + 1 := ⟨F - 1, by omega⟩
  refine pl_2 (fun f j (s : mh_I × mh_L) => X5_pinned_l159 (nI c) (nI p) (nI n) (qS (tried K P (rbf e o K M N) c p)) (nI a) k1 k2 (f + 1) (nI j) s.1 s.2) (fun f j (t : mh_I) => X6_pinsFor_l77 (nI c) (nI p) (nI n) 1 (nI a) k3 (f + 1) (-1) (nI j) t) 48 (fun r s => (∃ b I' L' J', b < 48 ∧ r = k1 (nI b) I' L' ∧ s = k3 (nI (100 * a + b)) J' ∧ xx I0 I' ∧ ll L0 L' ∧ jj Ja J') ∨ (∃ I' L' J', r = k2 I' L' ∧ s = k3 (-1) J' ∧ xx I0 I' ∧ ll L0 L' ∧ jj Ja J')) (fun j s t => a < j ∧ xx I0 s.1 ∧ ll L0 s.2 ∧ jj Ja t) ?_ ?_ F1 (a + 1) (I0, L0) Ja (by omega) (by omega) ⟨by omega, xx_r _, ll_r _, jj_r _⟩
  · rintro f ⟨I, L⟩ J ⟨-, w1, w2, w3⟩
    dsimp only at w1 w2 w3
    right
    refine ⟨I, L, J, ?_, ?_, w1, w2, w3⟩
    · dsimp only
      rw [X5_pinned_l159, if_pos (show (48 : Int32) ≤ nI 48 by decide)]
    · rw [X6_pinsFor_l77, if_pos (show (48 : Int32) ≤ nI 48 by decide)]
  · rintro f j ⟨I, L⟩ J hj ⟨w0, w1, w2, w3⟩
    dsimp only at w1 w2 w3
    have h' := R2_fr h w1 w2 (jj_r J0)
    have hP3 : ∀ i, i < 48 → J0 3 i = nI (qb P i) := h.2.1.2.2.2.2.1
    have hne : ¬ nI a = nI c := fun hh => hac ((nI_eq (by omega) (by omega)).mp hh)
    have eM : X6_pinsFor_l77 (nI c) (nI p) (nI n) 1 (nI a) k3 (f + 1 + 1) (-1) (nI j) J = if j = c then X6_pinsFor_l77 (nI c) (nI p) (nI n) 1 (nI a) k3 (f + 1) (-1) (nI (j + 1)) (mh_u (mh_u J 3 j 1) 3 j (J 3 j)) else (X6_isHeld (nI c) (nI p) (nI n) (mh_u J 3 j 1)).bind (fun q => X6_pinsFor_l77 (nI c) (nI p) (nI n) 1 (nI a) k3 (f + 1) (if q.1 = 0 then -1 else nI (100 * a + j)) (nI (j + 1)) (mh_u q.2 3 j (J 3 j))) := by
      rw [X6_pinsFor_l77, if_neg hne, if_neg (show ¬ (1 : Int32) = 0 by decide), if_pos rfl]
      simp (disch := omega) only [pn_ll, if_neg, px_ix, pj_j, pj_b, pn_al, pn_eq, pn_mr, nI_add]
      by_cases ejc : j = c
      · rw [if_pos ejc, if_pos ejc]
      · rw [if_neg ejc, if_neg ejc]
        congr 1
        funext q
        split
        · rfl
        · rfl
    by_cases ejc : j = c
    · left
      refine ⟨(I, L), mh_u (mh_u J 3 j 1) 3 j (J 3 j), ⟨by omega, w1, w2, jj_t w3 (pu_back (jj_r _) rfl)⟩, ?_, ?_⟩
      · dsimp only
        have ht : tried K P (rbf e o K M N) c p j = false := by
          unfold tried
          rw [decide_eq_true ejc]
          simp
        rw [X5_pinned_l159, qS_has _ ha, qS_has _ hj]
        simp (disch := omega) only [po_b, pn_ll, if_neg, pj_j, pj_b, pn_al, qI0, ht, if_true, ite_self]
      · rw [eM, if_pos ejc]
    · obtain ⟨J', m1, m2⟩ := pm_pin (J1 := mh_u J 3 j 1) (n := n) h (fun i => decide (i = a) || decide (i = j)) hc hp (by omega) (fun b k hb hb2 => by
        rw [pu_a hb, w3 b k hb2, eJa, pu_a hb]) (fun i hi => by
        by_cases ei : i = j
        · subst ei
          rw [pu_s]
          unfold qb
          simp
          rfl
        · rw [pu_k ei, w3 3 i (by omega), eJa]
          by_cases ei2 : i = a
          · subst ei2
            rw [pu_s]
            unfold qb
            simp
            rfl
          · rw [pu_k ei2, hP3 i hi]
            exact congrArg nI (qb_eq (show P i = (P i || (decide (i = a) || decide (i = j))) by rw [decide_eq_false ei, decide_eq_false ei2, Bool.or_false, Bool.or_false])))
      rw [eM, if_neg ejc, m1, po_b]
      dsimp only
      have hjj : jj Ja (mh_u J' 3 j (J 3 j)) := jj_t w3 (pu_back m2 rfl)
      have eU : qS (fun i => decide (i = a)) ||| qS (fun i => decide (i = j)) = qS (fun i => decide (i = a) || decide (i = j)) := qS_or _ _
      by_cases hta : tried K P (rbf e o K M N) c p a = true
      · by_cases htj : tried K P (rbf e o K M N) c p j = true
        · obtain ⟨I', L', d1, d2, d3, d4⟩ := px_pin h' (fun i => decide (i = a) || decide (i = j)) hc hp
          have hgl := gn_le (RH K P (rbf e o K M N) (fun i => decide (i = a) || decide (i = j)) c p)
          have eX : X5_pinned_l159 (nI c) (nI p) (nI n) (qS (tried K P (rbf e o K M N) c p)) (nI a) k1 k2 (f + 1 + 1) (nI j) I L = if n < gn (RH K P (rbf e o K M N) (fun i => decide (i = a) || decide (i = j)) c p) then X5_pinned_l159 (nI c) (nI p) (nI n) (qS (tried K P (rbf e o K M N) c p)) (nI a) k1 k2 (f + 1) (nI (j + 1)) I' L' else k1 (nI j) I' L' := by
            rw [X5_pinned_l159, qS_has _ ha, qS_has _ hj, qS_bit ha, qS_bit hj]
            simp (disch := omega) only [po_b, eU, d1, pn_ll, if_neg, pj_j, pj_b, pn_al, qI0, pn_lt]
            rw [if_neg (by rw [hta]; decide), if_neg (by rw [htj]; decide)]
          by_cases hlt : n < gn (RH K P (rbf e o K M N) (fun i => decide (i = a) || decide (i = j)) c p)
          · left
            rw [if_pos hlt, if_pos rfl]
            refine ⟨(I', L'), _, ⟨by omega, xx_t w1 d3, ll_t w2 d4, hjj⟩, ?_, rfl⟩
            dsimp only
            rw [eX, if_pos hlt]
          · right
            rw [if_neg hlt, if_neg (show ¬ (1 : Int32) = 0 by decide), l77_d (by rw [pn_neg (by omega)]; exact id)]
            left
            refine ⟨j, I', L', _, hj, ?_, rfl, xx_t w1 d3, ll_t w2 d4, hjj⟩
            rw [eX, if_neg hlt]
        · have htj' : tried K P (rbf e o K M N) c p j = false := by simpa using htj
          have hz : RH K P (rbf e o K M N) (fun _ => false) c p j = 0 := by
            unfold tried at htj'
            rw [decide_eq_false ejc] at htj'
            simp at htj'
            omega
          left
          rw [if_pos (pair_no ha hj hac ejc h1 (.inr hz)), if_pos rfl]
          refine ⟨(I, L), _, ⟨by omega, w1, w2, hjj⟩, ?_, rfl⟩
          dsimp only
          rw [X5_pinned_l159, qS_has _ ha, qS_has _ hj]
          simp (disch := omega) only [po_b, pn_ll, if_neg, pj_j, pj_b, pn_al, qI0, htj', if_true, ite_self]
      · have hta' : tried K P (rbf e o K M N) c p a = false := by simpa using hta
        have hz : RH K P (rbf e o K M N) (fun _ => false) c p a = 0 := by
          unfold tried at hta'
          rw [decide_eq_false hac] at hta'
          simp at hta'
          omega
        left
        rw [if_pos (pair_no ha hj hac ejc h1 (.inl hz)), if_pos rfl]
        refine ⟨(I, L), _, ⟨by omega, w1, w2, hjj⟩, ?_, rfl⟩
        dsimp only
        rw [X5_pinned_l159, qS_has _ ha]
        simp (disch := omega) only [po_b, pn_ll, if_neg, pj_j, pj_b, pn_al, qI0, hta', if_true]
theorem p_twoC {I0 : mh_I} {L0 : mh_L} {J0 : mh_I} {K M : Nat → Nat} {P N : Nat → Bool} {u : Nat} {e o : Nat → Nat} (h : R2 I0 L0 J0 K M P N u e o) {c p n F : Nat} (hc : c < 48) (hp : p < 100) (hn : n ≤ 48) (hF : 2000 < F) (eF : mh_fuel = F) (h1 : ∀ a, a < 48 → a ≠ c → n < gn (RH K P (rbf e o K M N) (fun i => decide (i = a)) c p)) (k1 : Int32 → Int32 → mh_I → mh_L → Option (Int32 × mh_I × mh_L)) :
    (∃ a b I' L' J', a < 48 ∧ b < 48 ∧ X5_pinned_l146 (nI c) (nI p) (nI n) (qS (tried K P (rbf e o K M N) c p)) k1 F (nI 0) I0 L0 = k1 (nI a) (nI b) I' L' ∧ X6_pinsFor (nI c) (nI p) (nI n) 1 J0 = some (nI (100 * a + b), J') ∧ xx I0 I' ∧ ll L0 L' ∧ jj J0 J') ∨
    (∃ I' L' J', X5_pinned_l146 (nI c) (nI p) (nI n) (qS (tried K P (rbf e o K M N) c p)) k1 F (nI 0) I0 L0 = some (-1, I', L') ∧ X6_pinsFor (nI c) (nI p) (nI n) 1 J0 = some (-1, J') ∧ xx I0 I' ∧ ll L0 L' ∧ jj J0 J') := by
  obtain ⟨F1, rfl⟩ : ∃ F1, F = F1 + 1 := ⟨F - 1, by omega⟩
  obtain ⟨F2, rfl⟩ : ∃ F2, F1 = F2 + 1 := ⟨F1 - 1, by omega⟩
  unfold X6_pinsFor
  rw [eF]
  refine pl_2 (fun f j (s : mh_I × mh_L) => X5_pinned_l146 (nI c) (nI p) (nI n) (qS (tried K P (rbf e o K M N) c p)) k1 (f + 1) (nI j) s.1 s.2) (fun f j (t : mh_I) => X6_pinsFor_l6 (nI c) (nI p) (nI n) 1 (f + 1) (-1) (nI j) t) 48 (fun r s => (∃ a b I' L' J', a < 48 ∧ b < 48 ∧ r = k1 (nI a) (nI b) I' L' ∧ s = some (nI (100 * a + b), J') ∧ xx I0 I' ∧ ll L0 L' ∧ jj J0 J') ∨ (∃ I' L' J', r = some (-1, I', L') ∧ s = some (-1, J') ∧ xx I0 I' ∧ ll L0 L' ∧ jj J0 J')) (fun j s t => xx I0 s.1 ∧ ll L0 s.2 ∧ jj J0 t) ?_ ?_ (F2 + 1) 0 (I0, L0) J0 (by omega) (by omega) ⟨xx_r _, ll_r _, jj_r _⟩
  · rintro f ⟨I, L⟩ J ⟨w1, w2, w3⟩
    dsimp only at w1 w2 w3
    right
    refine ⟨I, L, J, ?_, ?_, w1, w2, w3⟩
    · dsimp only
      rw [X5_pinned_l146, if_pos (show (48 : Int32) ≤ nI 48 by decide)]
    · rw [X6_pinsFor_l6, if_pos (show (48 : Int32) ≤ nI 48 by decide)]
  · rintro f j ⟨I, L⟩ J hj ⟨w1, w2, w3⟩
    dsimp only at w1 w2 w3
    have h' := R2_fr h w1 w2 w3
    have eM : X6_pinsFor_l6 (nI c) (nI p) (nI n) 1 (f + 1 + 1) (-1) (nI j) J = X6_pinsFor_l77 (nI c) (nI p) (nI n) 1 (nI j) (fun (v36 : Int32) (I37 : mh_I) => X6_pinsFor_l6 (nI c) (nI p) (nI n) 1 (f + 1) v36 (nI (j + 1)) (mh_u I37 3 j (J 3 j))) (F2 + 1 + 1) (-1) (nI (j + 1)) (mh_u J 3 j 1) := by
      rw [X6_pinsFor_l6, eF, if_pos rfl]
      simp (disch := omega) only [pn_ll, if_neg, px_ix, pj_j, pj_b, pn_al, pn_eq]
      by_cases ejc : j = c
      · rw [if_pos ejc]
      · rw [if_neg ejc, if_neg (show ¬ (1 : Int32) = 0 by decide)]
    have eX : X5_pinned_l146 (nI c) (nI p) (nI n) (qS (tried K P (rbf e o K M N) c p)) k1 (f + 1 + 1) (nI j) I L = X5_pinned_l159 (nI c) (nI p) (nI n) (qS (tried K P (rbf e o K M N) c p)) (nI j) (fun (v39 : Int32) (I40 : mh_I) (L41 : mh_L) => (k1 (nI j) v39 I40 L41)) (fun (I42 : mh_I) (L43 : mh_L) => X5_pinned_l146 (nI c) (nI p) (nI n) (qS (tried K P (rbf e o K M N) c p)) k1 (f + 1) (nI (j + 1)) I42 L43) (F2 + 1 + 1) (nI (j + 1)) I L := by
      rw [X5_pinned_l146, eF]
      simp (disch := omega) only [pn_ll, if_neg, pj_b, pn_al]
    by_cases ejc : j = c
    · left
      have ht : tried K P (rbf e o K M N) c p j = false := by
        unfold tried
        rw [decide_eq_true ejc]
        simp
      refine ⟨(I, L), mh_u (mh_u J 3 j 1) 3 j (J 3 j), ⟨w1, w2, jj_t w3 (pu_back (jj_r _) rfl)⟩, ?_, ?_⟩
      · dsimp only
        rw [eX, p_twoA hj ht (by omega)]
      · rw [eM, X6_pinsFor_l77]
        by_cases h48 : (48 : Int32) ≤ nI (j + 1)
        · rw [if_pos h48]
        · rw [if_neg h48, if_pos (by rw [ejc])]
    · have hB := p_twoB h' hc hp hn hj ejc (F := F2 + 1 + 1) (by omega) rfl h1 (fun (v39 : Int32) (I40 : mh_I) (L41 : mh_L) => (k1 (nI j) v39 I40 L41)) (fun (I42 : mh_I) (L43 : mh_L) => X5_pinned_l146 (nI c) (nI p) (nI n) (qS (tried K P (rbf e o K M N) c p)) k1 (f + 1) (nI (j + 1)) I42 L43) (fun (v36 : Int32) (I37 : mh_I) => X6_pinsFor_l6 (nI c) (nI p) (nI n) 1 (f + 1) v36 (nI (j + 1)) (mh_u I37 3 j (J 3 j)))
      rcases hB with ⟨b, I', L', J', b1, b2, b3, b4, b5, b6⟩ | ⟨I', L', J', b2, b3, b4, b5, b6⟩
      · right; left
        refine ⟨j, b, I', L', mh_u J' 3 j (J 3 j), hj, b1, ?_, ?_, xx_t w1 b4, ll_t w2 b5, jj_t w3 (pu_back b6 rfl)⟩
        · dsimp only
          rw [eX, b2]
        · rw [eM, b3, l6_d (by rw [pn_neg (by omega)]; exact id)]
      · left
        refine ⟨(I', L'), mh_u J' 3 j (J 3 j), ⟨xx_t w1 b4, ll_t w2 b5, jj_t w3 (pu_back b6 rfl)⟩, ?_, ?_⟩
        · dsimp only
          rw [eX, b2]
        · rw [eM, b3]
theorem r_pinned : RS_pinned Rel := by
  intro T I L J a1 a2 a3 a4 h
  obtain ⟨F, hF, eF⟩ := fuel_ex
  unfold X5_pinned X6_pinned
  rw [eF]
  rcases pa_loop a1 with ⟨h5, h6⟩ | ⟨c, hc, rfl, h5, h6⟩
  · simp only [h5, h6, po_b, if_true]
    exact ⟨_, _, rfl, rfl, rfl, h⟩
  rcases pa_pull a2 with ⟨k5, k6⟩ | ⟨p, hp, rfl, k5, k6⟩
  · simp only [h5, h6, k5, k6, po_b, if_true, pz_10, if_false]
    exact ⟨_, _, rfl, rfl, rfl, h⟩
  rcases pa_rng a3 48 (n := 48) (by decide) with ⟨m5, m6, -⟩ | ⟨n, hn, rfl, m5, m6⟩
  · simp only [h5, h6, m5, m6, k5, k6, po_b, if_true, pz_10, if_false]
    exact ⟨_, _, rfl, rfl, rfl, h⟩
  rcases pa_rng a4 2 (n := 2) (by decide) with ⟨g5, g6, -⟩ | ⟨w, hw, rfl, g5, g6⟩
  · simp only [h5, h6, m5, m6, g5, g6, k5, k6, po_b, if_true, pz_10, if_false]
    exact ⟨_, _, rfl, rfl, rfl, h⟩
  obtain ⟨-, ⟨K, M, P, N, u, nn, hc1, -⟩, -⟩ := id h
  obtain ⟨e, o, h2⟩ := R2_of hc1
  obtain ⟨I', L', d1, d2, d3, d4⟩ := px_pin h2 (fun _ => false) hc hp
  rw [← qS_0] at d1
  obtain ⟨J', e1, e2⟩ := pm_pin (J1 := J) (n := n) h2 (fun _ => false) hc hp (by omega) (fun _ _ _ _ => rfl) (fun i hi => by
    rw [h2.2.1.2.2.2.2.1 i hi]
    exact congrArg nI (qb_eq (show P i = (P i || false) by rw [Bool.or_false])))
  have hgl := gn_le (RH K P (rbf e o K M N) (fun _ => false) c p)
  simp only [h5, h6, m5, m6, g5, g6, k5, k6, po_b, pz_10, if_false, d1, e1, qS_bit hc, d2.2.1, qS_andn, pj_b]
  have hlt : (nI n < nI (gn (RH K P (rbf e o K M N) (fun _ => false) c p))) = (n < gn (RH K P (rbf e o K M N) (fun _ => false) c p)) := propext (nI_ltI (by omega) (by omega))
  simp only [hlt]
  by_cases hb : n < gn (RH K P (rbf e o K M N) (fun _ => false) c p)
  · simp only [hb, if_true]
    have h2' := R2_fr h2 d3 d4 e2
    have hfr := Rel_fr h d3 d4 e2
    rcases p_one h2' hc hp hn (by omega) eF hb (fun (v18 : Int32) (I19 : mh_I) (L20 : mh_L) => if nI w = 0 then some ((1 : Int32), I19, L20) else if nI w = (1 : Int32) then some (v18, I19, L20) else some ((-1 : Int32), I19, L20)) (fun (I23 : mh_I) (L24 : mh_L) => X5_pinned_l146 (nI c) (nI p) (nI n) (qS (tried K P (rbf e o K M N) c p)) (fun (v46 : Int32) (v47 : Int32) (I48 : mh_I) (L49 : mh_L) => if nI w = 0 then some ((2 : Int32), I48, L49) else if nI w = (1 : Int32) then some (v46, I48, L49) else some (v47, I48, L49)) F (0 : Int32) I23 L24) with ⟨a, I2, L2, J2, x0, x1, x2, x3, x4, x5⟩ | ⟨I2, L2, J2, x1, x2, x3, x4, x5, x6⟩
    · have x1' := x1
      unfold tried at x1'
      have x1'' : X5_pinned_l83 (nI c) (nI p) (nI n) _ _ _ F (0 : Int32) I' L' = _ := x1'
      rw [x1'', x2, po_b]
      have hfin := Rel_fr hfr x3 x4 x5
      have hne : ¬ nI (100 * a + 99) = -1 := by rw [pn_neg (by omega)]; exact id
      dsimp only
      rw [if_neg hne]
      rcases (show w = 0 ∨ w = 1 ∨ w = 2 by omega) with rfl | rfl | rfl
      · rw [if_pos (by decide), if_pos (by decide)]
        exact ⟨_, _, rfl, rfl, rfl, hfin⟩
      · rw [if_neg (by decide), if_pos (by decide), if_neg (by decide), if_pos (by decide)]
        refine ⟨_, _, rfl, rfl, ?_, hfin⟩
        show nI a = nI (100 * a + 99) / 100
        simp (disch := omega) only [pn_dv]
        rw [show (100 * a + 99) / 100 = a by omega]
      · rw [if_neg (by decide), if_neg (by decide), if_neg (by decide), if_neg (by decide)]
        exact ⟨_, _, rfl, rfl, rfl, hfin⟩
    · have x1' := x1
      unfold tried at x1'
      have x1'' : X5_pinned_l83 (nI c) (nI p) (nI n) _ _ _ F (0 : Int32) I' L' = _ := x1'
      have h22 := R2_fr h2' x3 x4 x5
      have hfr2 := Rel_fr hfr x3 x4 x5
      rcases p_twoC h22 hc hp hn (F := F) (by omega) eF x6 (fun (v46 : Int32) (v47 : Int32) (I48 : mh_I) (L49 : mh_L) => if nI w = 0 then some ((2 : Int32), I48, L49) else if nI w = (1 : Int32) then some (v46, I48, L49) else some (v47, I48, L49)) with ⟨a, b, I3, L3, J3, y0, y0', y1, y2, y3, y4, y5⟩ | ⟨I3, L3, J3, y1, y2, y3, y4, y5⟩
      · unfold tried at y1
        have y1'' : X5_pinned_l146 (nI c) (nI p) (nI n) _ _ F (0 : Int32) I2 L2 = _ := y1
        rw [x1'', x2, po_b, y1'']
        dsimp only
        rw [if_pos rfl, y2, po_b]
        dsimp only
        have hfin := Rel_fr hfr2 y3 y4 y5
        have hne : ¬ nI (100 * a + b) = -1 := by rw [pn_neg (by omega)]; exact id
        rw [if_neg hne]
        rcases (show w = 0 ∨ w = 1 ∨ w = 2 by omega) with rfl | rfl | rfl
        · rw [if_pos (by decide), if_pos (by decide)]
          exact ⟨_, _, rfl, rfl, rfl, hfin⟩
        · rw [if_neg (by decide), if_pos (by decide), if_neg (by decide), if_pos (by decide)]
          refine ⟨_, _, rfl, rfl, ?_, hfin⟩
          show nI a = nI (100 * a + b) / 100
          simp (disch := omega) only [pn_dv]
          rw [show (100 * a + b) / 100 = a by omega]
        · rw [if_neg (by decide), if_neg (by decide), if_neg (by decide), if_neg (by decide)]
          refine ⟨_, _, rfl, rfl, ?_, hfin⟩
          show nI b = mh_rem (nI (100 * a + b)) 100
          simp (disch := omega) only [pn_rm]
          rw [show (100 * a + b) % 100 = b by omega]
      · unfold tried at y1
        have y1'' : X5_pinned_l146 (nI c) (nI p) (nI n) _ _ F (0 : Int32) I2 L2 = _ := y1
        rw [x1'', x2, po_b, y1'']
        dsimp only
        rw [if_pos rfl, y2, po_b]
        dsimp only
        rw [if_pos rfl]
        exact ⟨_, _, rfl, rfl, rfl, Rel_fr hfr2 y3 y4 y5⟩
  · simp only [hb, if_false, pz_10]
    by_cases hw0 : nI w = 0
    · simp only [hw0, if_true]
      exact ⟨_, _, rfl, rfl, rfl, Rel_fr h d3 d4 e2⟩
    · simp only [hw0, if_false]
      exact ⟨_, _, rfl, rfl, rfl, Rel_fr h d3 d4 e2⟩
