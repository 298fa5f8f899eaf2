/-! PURE: the reference's held signs -/
def rkn (q : Nat) : Nat := if q = 0 then 0 else if q = 11 then 1 else if q = 12 then 2 else if q = 13 then 3 else if q ≤ 15 then 4 else if q ≤ 17 then 5 else if q = 18 then 6 else 7
theorem rk_x : ∀ q, q < 20 → X6_rank (nI q) = some (nI (rkn q)) := by decide +kernel
theorem rk_l (q : Nat) : rkn q ≤ 7 := by
  unfold rkn
  repeat' split
  all_goals omega
def opn : List Nat → Nat
  | [] => 0
  | x :: H => opn H + (if x = 0 ∨ x = 13 ∨ x = 19 then 1 else 0)
def HL (J : mh_I) : List Nat → Prop
  | [] => True
  | x :: H => J 14 H.length = nI x ∧ (x = 0 ∨ 11 ≤ x ∧ x ≤ 19) ∧ HL J H
def RF (n : Nat) (J0 J : mh_I) : Prop := ∀ a i, ¬ (a = 0 ∧ 17 ≤ i ∧ i ≤ 25) → a ≠ 14 → ¬ (a = 6 ∧ 200 * n ≤ i) → J a i = J0 a i
def RQ (n : Nat) (J0 J : mh_I) (H O : List Nat) : Prop := J 0 23 = nI H.length ∧ J 0 24 = nI (opn H) ∧ J 0 25 = nI O.length ∧ (∀ j, j < O.length → J 6 (200 * n + j) = nI (O.getD j 0)) ∧ HL J H ∧ RF n J0 J
def BS (n z : Nat) (b : Nat → Nat) (J0 : mh_I) : Prop := n < 6 ∧ z ≤ 160 ∧ (∀ i, i < z → b i < 256) ∧ J0 0 5 = nI z ∧ (∀ i, i < z → J0 5 i = nI (b i)) ∧ Rwords J0 ∧ J0 0 8 = nI n
theorem HL_fr {J J' : mh_I} : ∀ {H : List Nat}, HL J H → (∀ i, i < H.length → J' 14 i = J 14 i) → HL J' H := by
  intro H
  induction H with
  | nil => intro _ _; trivial
  | cons x H ih =>
    intro h h2
    refine ⟨(h2 _ (by simp)).trans h.1, h.2.1, ih h.2.2 (fun i hi => h2 i (by simp; omega))⟩
theorem gd_app (O : List Nat) (x j : Nat) : (O ++ [x]).getD j 0 = if j < O.length then O.getD j 0 else if j = O.length then x else 0 := by
  simp only [List.getD_eq_getElem?_getD, List.getElem?_append]
  by_cases h : j < O.length
  · simp [h]
  · simp only [h, if_false]
    by_cases h2 : j = O.length
    · simp [h2]
    · rw [if_neg h2, List.getElem?_eq_none (by simp; omega)]; rfl
theorem rq_puts {n : Nat} {J0 J : mh_I} {H O : List Nat} (hn : n < 6) (h8 : J0 0 8 = nI n) (hO : O.length < 200) (h : RQ n J0 J H O) (x : Nat) : ∃ J', X6_puts (nI x) J = some J' ∧ RQ n J0 J' H (O ++ [x]) ∧ ∀ i, 17 ≤ i → i ≤ 24 → J' 0 i = J 0 i := by
  obtain ⟨q1, q2, q3, q4, q5, q6⟩ := h
  unfold X6_puts
  rw [q6 0 8 (by omega) (by omega) (by omega), h8, q3, pn_mr, nI_add, px_ix (show 200 * n + O.length < 1200 by omega) (by decide)]
  refine ⟨_, rfl, ⟨?_, ?_, ?_, fun j hj => ?_, ?_, fun a i h1 h2 h3 => ?_⟩, fun i h1 h2 => ?_⟩
  · rw [pu_k (by decide), pu_a (by decide), q1]
  · rw [pu_k (by decide), pu_a (by decide), q2]
  · rw [pu_s, pu_a (by decide), q3, pn_al]
    exact congrArg nI (by simp)
  · rw [pu_a (by decide), gd_app]
    simp only [List.length_append, List.length_singleton] at hj
    by_cases c : j < O.length
    · rw [if_pos c, pu_k (by omega), q4 j c]
    · have : j = O.length := by omega
      subst this
      rw [if_neg (by omega), if_pos rfl, pu_s]
  · exact HL_fr q5 (fun i _ => by rw [pu_a (by decide), pu_a (by decide)])
  · rw [show mh_u (mh_u J 6 (200 * n + O.length) (nI x)) 0 25 _ a i = mh_u J 6 (200 * n + O.length) (nI x) a i from if_neg (by omega), show mh_u J 6 (200 * n + O.length) (nI x) a i = J a i from if_neg (by omega), q6 a i h1 h2 h3]
  · rw [pu_k (by omega), pu_a (by decide)]
theorem rq_unw {n : Nat} {J0 : mh_I} {r : Nat} {H0 : List Nat} (hn : n < 6) (h8 : J0 0 8 = nI n) (hr : 0 < r ∧ r < 10) (hH : ∀ x T, H0 = x :: T → rkn x < r) : ∀ (pend : List Nat) (F : Nat) (J : mh_I) (O : List Nat), pend.length < F → O.length + (pend ++ H0).length ≤ 160 → RQ n J0 J (pend ++ H0) O → (∀ x, x ∈ pend → r ≤ rkn x) → ∃ J', X6_unwinds_l0 (nI r) F J = some J' ∧ RQ n J0 J' H0 (O ++ pend) ∧ ∀ i, 17 ≤ i → i ≤ 20 → J' 0 i = J 0 i := by
  intro pend
  induction pend with
  | nil =>
    intro F J O hF hl h _
    obtain ⟨f, rfl⟩ : ∃ f, F = f + 1 := ⟨F - 1, by simp at hF; omega⟩
    refine ⟨J, ?_, by simpa using h, fun _ _ _ => rfl⟩
    rw [X6_unwinds_l0]
    obtain ⟨q1, q2, q3, q4, q5, q6⟩ := h
    rw [List.nil_append] at q1 q5 hl
    rw [q1]
    cases H0 with
    | nil => rw [if_pos (by decide)]
    | cons x T =>
      simp only [List.length_cons] at hl ⊢
      have hx := hH x T rfl
      have hk := rk_l x
      have hx20 : x < 20 := by have := q5.2.1; omega
      rw [if_neg (show ¬ nI (T.length + 1) ≤ (0 : Int32) from (nI_ge (by omega) (by omega) : ¬ nI (T.length + 1) ≤ nI 0)), pn_sl (by omega), show T.length + 1 - 1 = T.length by omega, px_ix (show T.length < 200 by omega) (by decide), q5.1, rk_x x hx20, po_b, if_pos (nI_lt hx (by omega))]
  | cons x P ih =>
    intro F J O hF hl h hp
    obtain ⟨f, rfl⟩ : ∃ f, F = f + 1 := ⟨F - 1, by simp at hF; omega⟩
    obtain ⟨q1, q2, q3, q4, q5, q6⟩ := h
    rw [List.cons_append] at q1 q2 q5 hl
    simp only [List.length_cons] at q1 hl hF
    have hx := hp x (List.mem_cons_self ..)
    have hk := rk_l x
    have hx20 : x < 20 := by have := q5.2.1; omega
    have hx0 : x ≠ 0 := by
      intro hh
      rw [hh] at hx
      have : rkn 0 = 0 := by decide
      omega
    have fin : ∀ y : Int32, nI (opn (x :: (P ++ H0))) - y = nI (opn (P ++ H0)) → ∃ J', (X6_puts (nI x) (mh_u (mh_u J 0 23 (nI (P ++ H0).length)) 0 24 (((mh_u J 0 23 (nI (P ++ H0).length)) 0 24) - y))).bind (fun q12 => X6_unwinds_l0 (nI r) f q12) = some J' ∧ RQ n J0 J' H0 (O ++ x :: P) ∧ ∀ i, 17 ≤ i → i ≤ 20 → J' 0 i = J 0 i := by
      intro y hy
      obtain ⟨J1, k1, k2, k3⟩ := rq_puts (H := P ++ H0) (O := O) (J := mh_u (mh_u J 0 23 (nI (P ++ H0).length)) 0 24 (((mh_u J 0 23 (nI (P ++ H0).length)) 0 24) - y)) hn h8 (by omega) ⟨by rw [pu_k (by decide), pu_s], by rw [pu_s, pu_k (by decide), q2, hy], by rw [pu_k (by decide), pu_k (by decide), q3], fun j hj => by rw [pu_a (by decide), pu_a (by decide), q4 j hj], HL_fr q5.2.2 (fun i _ => by rw [pu_a (by decide), pu_a (by decide)]), fun a i h1 h2 h3 => by rw [show mh_u (mh_u J 0 23 (nI (P ++ H0).length)) 0 24 _ a i = mh_u J 0 23 (nI (P ++ H0).length) a i from if_neg (by omega), show mh_u J 0 23 (nI (P ++ H0).length) a i = J a i from if_neg (by omega), q6 a i h1 h2 h3]⟩ x
      rw [k1, po_b]
      obtain ⟨J2, l1, l2, l3⟩ := ih f J1 (O ++ [x]) (by omega) (by simp only [List.length_append, List.length_singleton] at hl ⊢; omega) k2 (fun y hy => hp y (List.mem_cons_of_mem _ hy))
      refine ⟨J2, l1, by rw [List.append_assoc] at l2; exact l2, fun i h1 h2 => ?_⟩
      rw [l3 i h1 h2, k3 i h1 (by omega), pu_k (by omega), pu_k (by omega)]
    rw [X6_unwinds_l0, q1, if_neg (show ¬ nI ((P ++ H0).length + 1) ≤ (0 : Int32) from (nI_ge (by omega) (by omega) : ¬ nI ((P ++ H0).length + 1) ≤ nI 0)), pn_sl (by omega), show (P ++ H0).length + 1 - 1 = (P ++ H0).length by omega, px_ix (show (P ++ H0).length < 200 by omega) (by decide), q5.1, rk_x x hx20, po_b, if_neg (nI_nlt hx (by omega)), pu_s, px_ix (show (P ++ H0).length < 200 by omega) (by decide), pu_a (by decide), q5.1, pj_b, pj_j]
    simp only [pj_j]
    by_cases c13 : x = 13
    · rw [if_pos (show nI x = (13 : Int32) by rw [c13]; rfl)]
      exact fin 1 (by rw [opn, if_pos (.inr (.inl c13)), pn_sl (by omega)]; exact congrArg nI (by omega))
    · rw [if_neg (show ¬ nI x = (13 : Int32) from fun hh => c13 ((nI_eq (by omega) (by decide)).mp (show nI x = nI 13 from hh)))]
      by_cases c19 : x = 19
      · rw [if_pos (show nI x = (19 : Int32) by rw [c19]; rfl)]
        exact fin 1 (by rw [opn, if_pos (.inr (.inr c19)), pn_sl (by omega)]; exact congrArg nI (by omega))
      · rw [if_neg (show ¬ nI x = (19 : Int32) from fun hh => c19 ((nI_eq (by omega) (by decide)).mp (show nI x = nI 19 from hh)))]
        exact fin 0 (by rw [opn, if_neg (by omega)]; exact Int32.sub_zero _)
theorem rq_unw' {n : Nat} {J0 J : mh_I} {r : Nat} {H H0 pend O : List Nat} (hn : n < 6) (h8 : J0 0 8 = nI n) (hr : 0 < r ∧ r < 10) (hH : ∀ x T, H0 = x :: T → rkn x < r) (e : H = pend ++ H0) (hl : O.length + H.length ≤ 160) (h : RQ n J0 J H O) (hp : ∀ x, x ∈ pend → r ≤ rkn x) : ∃ J', X6_unwinds (nI r) J = some J' ∧ RQ n J0 J' H0 (O ++ pend) ∧ ∀ i, 17 ≤ i → i ≤ 20 → J' 0 i = J 0 i := by
  subst e
  obtain ⟨F, hF, eF⟩ := fuel_ex
  unfold X6_unwinds
  rw [eF]
  exact rq_unw hn h8 hr hH pend F J O (by simp only [List.length_append] at hl; omega) hl h hp
theorem rq_holds {n : Nat} {J0 J : mh_I} {H O : List Nat} (hl : H.length < 200) (h : RQ n J0 J H O) {x : Nat} (hx : 11 ≤ x ∧ x ≤ 18 ∧ x ≠ 13) : ∃ J', X6_holds (nI x) J = some J' ∧ RQ n J0 J' (x :: H) O ∧ ∀ i, 17 ≤ i → i ≤ 20 → J' 0 i = J 0 i := by
  obtain ⟨q1, q2, q3, q4, q5, q6⟩ := h
  unfold X6_holds
  rw [q1, px_ix hl (by decide)]
  refine ⟨_, rfl, ⟨?_, ?_, ?_, fun j hj => ?_, ⟨?_, by omega, HL_fr q5 (fun i hi => ?_)⟩, fun a i h1 h2 h3 => ?_⟩, fun i h1 h2 => ?_⟩
  · rw [pu_s, pu_a (by decide), q1, pn_al]; rfl
  · rw [pu_k (by decide), pu_a (by decide), q2, opn, if_neg (by omega)]; rfl
  · rw [pu_k (by decide), pu_a (by decide), q3]
  · rw [pu_a (by decide), pu_a (by decide), q4 j hj]
  · rw [pu_a (by decide), pu_s]
  · rw [pu_a (by decide), pu_k (by omega)]
  · rw [show mh_u (mh_u J 14 H.length (nI x)) 0 23 _ a i = mh_u J 14 H.length (nI x) a i from if_neg (by omega), show mh_u J 14 H.length (nI x) a i = J a i from if_neg (by omega), q6 a i h1 h2 h3]
  · rw [pu_k (by omega), pu_a (by decide)]
theorem rq_opens {n : Nat} {J0 J : mh_I} {H O : List Nat} (hl : H.length < 200) (h : RQ n J0 J H O) (ho : opn H ≤ 5) {x : Nat} (hx : x = 0 ∨ x = 13 ∨ x = 19) : (opn H = 5 ∧ X6_opensOne (nI x) J = some (0, J)) ∨ (opn H < 5 ∧ ∃ J', X6_opensOne (nI x) J = some (1, J') ∧ RQ n J0 J' (x :: H) O ∧ ∀ i, 17 ≤ i → i ≤ 20 → J' 0 i = J 0 i) := by
  obtain ⟨q1, q2, q3, q4, q5, q6⟩ := h
  unfold X6_opensOne X6_holds
  rw [q2]
  by_cases c : opn H = 5
  · rw [if_pos (show nI (opn H) = (5 : Int32) by rw [c]; rfl)]
    exact .inl ⟨c, rfl⟩
  · right
    refine ⟨by omega, ?_⟩
    rw [if_neg (show ¬ nI (opn H) = (5 : Int32) from fun hh => c ((nI_eq (by omega) (by decide)).mp (show nI _ = nI 5 from hh))), pu_k (by decide), q1, px_ix hl (by decide), po_b]
    refine ⟨_, rfl, ⟨?_, ?_, ?_, fun j hj => ?_, ⟨?_, by omega, HL_fr q5 (fun i hi => ?_)⟩, fun a i h1 h2 h3 => ?_⟩, fun i h1 h2 => ?_⟩
    · rw [pu_s, pu_a (by decide), pu_k (by decide), q1, pn_al]; rfl
    · rw [pu_k (by decide), pu_a (by decide), pu_s, opn, if_pos hx, pn_al]
    · rw [pu_k (by decide), pu_a (by decide), pu_k (by decide), q3]
    · rw [pu_a (by decide), pu_a (by decide), pu_a (by decide), q4 j hj]
    · rw [pu_a (by decide), pu_s]
    · rw [pu_a (by decide), pu_k (by omega), pu_a (by decide)]
    · rw [show mh_u (mh_u (mh_u J 0 24 (nI (opn H) + 1)) 14 H.length (nI x)) 0 23 _ a i = mh_u (mh_u J 0 24 (nI (opn H) + 1)) 14 H.length (nI x) a i from if_neg (by omega), show mh_u (mh_u J 0 24 (nI (opn H) + 1)) 14 H.length (nI x) a i = mh_u J 0 24 (nI (opn H) + 1) a i from if_neg (by omega), show mh_u J 0 24 (nI (opn H) + 1) a i = J a i from if_neg (by omega), q6 a i h1 h2 h3]
    · rw [pu_k (by omega), pu_a (by decide), pu_k (by omega)]
