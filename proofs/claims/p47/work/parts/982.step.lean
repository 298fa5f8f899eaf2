/-! PURE: the reference's reader, one step -/
def KK : mh_I → Option (Int32 × mh_I) := fun (I34 : mh_I) => (X6_unwinds (1 : Int32) I34).bind (fun q35 => if (q35 0 23) = 0 then some ((1 : Int32), q35) else some ((0 : Int32), q35))
def RS (n : Nat) (J0 J : mh_I) (p : Nat) (H O : List Nat) : Prop := J 0 17 = nI p ∧ RQ n J0 J H O ∧ O.length + H.length ≤ p ∧ opn H ≤ 5
def Rt (J : mh_I) (u1 u2 : Int32) (J' : mh_I) (v1 v2 : Int32) (c : Nat) : Prop := ∀ f, X6_eRead_l14 KK (f + c) u1 u2 J = X6_eRead_l14 KK f v1 v2 J'
def Rf (n : Nat) (J0 J : mh_I) (u1 u2 : Int32) (s c : Nat) : Prop := ∃ J', (∀ f, X6_eRead_l14 KK (f + c) u1 u2 J = some (0, J')) ∧ J' 0 18 = nI s ∧ RF n J0 J'
theorem Rt_t {J J' J'' : mh_I} {u1 u2 v1 v2 w1 w2 : Int32} {c d : Nat} (h : Rt J u1 u2 J' v1 v2 c) (h2 : Rt J' v1 v2 J'' w1 w2 d) : Rt J u1 u2 J'' w1 w2 (d + c) := fun f => by
  rw [← Nat.add_assoc, h (f + d), h2 f]
theorem Rt_f {n : Nat} {J0 J J' : mh_I} {u1 u2 v1 v2 : Int32} {s c d : Nat} (h : Rt J u1 u2 J' v1 v2 c) (h2 : Rf n J0 J' v1 v2 s d) : Rf n J0 J u1 u2 s (d + c) := by
  obtain ⟨J2, k1, k2, k3⟩ := h2
  exact ⟨J2, fun f => by rw [← Nat.add_assoc, h (f + d), k1 f], k2, k3⟩
theorem rq_fr {n : Nat} {J0 J J' : mh_I} {H O : List Nat} (h : RQ n J0 J H O) (hf : ∀ a i, ¬ (a = 0 ∧ 17 ≤ i ∧ i ≤ 20) → J' a i = J a i) : RQ n J0 J' H O := by
  obtain ⟨q1, q2, q3, q4, q5, q6⟩ := h
  exact ⟨(hf 0 23 (by omega)).trans q1, (hf 0 24 (by omega)).trans q2, (hf 0 25 (by omega)).trans q3, fun j hj => (hf 6 _ (by omega)).trans (q4 j hj), HL_fr q5 (fun i _ => hf 14 i (by omega)), fun a i h1 h2 h3 => (hf a i (by omega)).trans (q6 a i h1 h2 h3)⟩
theorem lx_le {b : Nat → Nat} {z p s e t v : Nat} (h : LX b z p s e t v) : p ≤ s ∧ s ≤ e ∧ e ≤ z ∧ (t ≠ 0 → s < e) ∧ (t ≤ 2 ∨ 40 ≤ t ∧ t ≤ 61 ∨ 300 ≤ t ∧ t < 312) ∧ (t = 2 → v < 10000) := by
  obtain ⟨h1, h2, h3, h4, h5, hc⟩ := h
  refine ⟨h1, h2, h3, ?_, ?_, ?_⟩
  · rcases hc with ⟨c1, c2, c3, c4⟩ | ⟨c1, -⟩ | ⟨c1, -⟩ | ⟨c1, -⟩
    · intro hh; exact absurd c3 hh
    all_goals intro; omega
  · rcases hc with ⟨c1, c2, c3, c4⟩ | ⟨c1, c2, c3, ⟨k, k1, k2, k3⟩ | ⟨k1, k2⟩⟩ | ⟨c1, c2, c3, ⟨k1, k2, k3⟩ | ⟨k1, k2⟩⟩ | ⟨c1, c2, c3, ⟨k1, k2⟩ | ⟨k1, k2⟩⟩
    all_goals (try unfold lxs at k1); omega
  · rcases hc with ⟨c1, c2, c3, c4⟩ | ⟨c1, c2, c3, ⟨k, k1, k2, k3⟩ | ⟨k1, k2⟩⟩ | ⟨c1, c2, c3, ⟨k1, k2, k3⟩ | ⟨k1, k2⟩⟩ | ⟨c1, c2, c3, ⟨k1, k2⟩ | ⟨k1, k2⟩⟩
    · intro; omega
    · intro; omega
    · intro; omega
    · intro _
      have := dv_lt (b := b) (s := s) (e - s) (fun i hi => c2 (s + i) (by omega) (by omega))
      have h10 : 10 ^ (e - s) ≤ 10 ^ 4 := Nat.pow_le_pow_right (by decide) k1
      omega
    · intro; omega
    · intro hh; unfold lxs at k1; omega
    · intro; omega
def sg (t : Nat) : Nat := if t = 303 then 11 else if t = 304 then 12 else if t = 60 then 14 else if t = 61 then 15 else if t = 43 then 16 else if t = 45 then 17 else if t = 42 then 18 else 0
theorem rt_a : ∀ t, t < 312 → (t ≤ 2 ∨ 40 ≤ t ∧ t ≤ 61 ∨ 300 ≤ t) → (rtk t = 1 ↔ t = 2) ∧ (rtk t = 2 ↔ 306 ≤ t) ∧ (rtk t = 45 ↔ t = 45) ∧ (rtk t = 40 ↔ t = 40) := by decide +kernel
theorem rt_b : ∀ t, t < 312 → (t ≤ 2 ∨ 40 ≤ t ∧ t ≤ 61 ∨ 300 ≤ t) → (rtk t = 6 ↔ t = 305) ∧ (rtk t = 59 ↔ t = 59) ∧ (rtk t = 41 ↔ t = 41) ∧ (rtk t = 0 ↔ t = 0) := by decide +kernel
theorem rt_c : ∀ t, t < 312 → (t ≤ 2 ∨ 40 ≤ t ∧ t ≤ 61 ∨ 300 ≤ t) → (rtk t = 3 ↔ 300 ≤ t ∧ t < 303) := by decide +kernel
theorem rt_x (t : Nat) (h : t < 312) (h2 : t ≤ 2 ∨ 40 ≤ t ∧ t ≤ 61 ∨ 300 ≤ t) : (rtk t = 1 ↔ t = 2) ∧ (rtk t = 2 ↔ 306 ≤ t) ∧ (rtk t = 45 ↔ t = 45) ∧ (rtk t = 40 ↔ t = 40) ∧ (rtk t = 6 ↔ t = 305) ∧ (rtk t = 59 ↔ t = 59) ∧ (rtk t = 41 ↔ t = 41) ∧ (rtk t = 0 ↔ t = 0) ∧ (rtk t = 3 ↔ 300 ≤ t ∧ t < 303) := by
  obtain ⟨a1, a2, a3, a4⟩ := rt_a t h h2
  obtain ⟨b1, b2, b3, b4⟩ := rt_b t h h2
  exact ⟨a1, a2, a3, a4, b1, b2, b3, b4, rt_c t h h2⟩
theorem sg_x : ∀ t, t < 312 → (t ≤ 2 ∨ 40 ≤ t ∧ t ≤ 61 ∨ 300 ≤ t) → (if rtk t = (4 : Int32) then some (11 : Int32) else if rtk t = (5 : Int32) then some (12 : Int32) else if rtk t = (60 : Int32) then some (14 : Int32) else if rtk t = (61 : Int32) then some (15 : Int32) else if rtk t = (43 : Int32) then some (16 : Int32) else if rtk t = (45 : Int32) then some (17 : Int32) else if rtk t = (42 : Int32) then some (18 : Int32) else some (-1 : Int32)) = some (if sg t = 0 then -1 else nI (sg t)) := by decide +kernel
theorem sg_r (t : Nat) : sg t = 0 ∨ (11 ≤ sg t ∧ sg t ≤ 18 ∧ sg t ≠ 13) := by
  unfold sg
  repeat' split
  all_goals omega
theorem rs_next {n z : Nat} {b : Nat → Nat} {J0 J : mh_I} {p s e t v : Nat} {H O : List Nat} (hB : BS n z b J0) (h : RS n J0 J p H O) (hx : LX b z p s e t v) : ∃ J1, X6_next J = some J1 ∧ J1 0 17 = nI e ∧ J1 0 18 = nI s ∧ J1 0 19 = rtk t ∧ (t = 2 → J1 0 20 = nI v) ∧ (300 ≤ t → t < 303 → J1 0 20 = nI (t - 300)) ∧ (306 ≤ t → J1 0 20 = nI (t - 306)) ∧ RQ n J0 J1 H O := by
  obtain ⟨B1, B2, B3, B4, B5, B6, B7⟩ := hB
  obtain ⟨R1, R2, R3, R4⟩ := h
  have fr := R2.2.2.2.2.2
  obtain ⟨J1, k1, k2, k3, k4, k5, k6, k7, k8⟩ := lx_ref (J := J) B2 B3 ((fr 0 5 (by omega) (by omega) (by omega)).trans B4) (fun i hi => (fr 5 i (by omega) (by omega) (by omega)).trans (B5 i hi)) (fun k hk => (fr 13 k (by omega) (by omega) (by omega)).trans (B6 k hk)) R1 hx
  exact ⟨J1, k1, k2, k3, k4, k5, k6, k7, rq_fr R2 k8⟩
def tc (t v : Nat) : Nat := if t = 2 then 100000 + v else t - 306
theorem s_operand {n z : Nat} {b : Nat → Nat} {J0 J : mh_I} {p s e t v j : Nat} {H H0 O : List Nat} {u2 : Int32} (hB : BS n z b J0) (h : RS n J0 J p H O) (hx : LX b z p s e t v) (ht : t = 2 ∨ 306 ≤ t) (eH : H = List.replicate j 19 ++ H0) (hH0 : ∀ x T, H0 = x :: T → rkn x < 7) : ∃ J', Rt J 1 u2 J' 0 u2 1 ∧ RS n J0 J' e H0 (O ++ [tc t v] ++ List.replicate j 19) := by
  obtain ⟨J1, k1, k2, k3, k4, k5, k6, k7, k8⟩ := rs_next hB h hx
  obtain ⟨l1, l2, l3, l4, l5, l6⟩ := lx_le hx
  have hB2 := hB.2.1
  obtain ⟨R1, R2, R3, R4⟩ := h
  obtain ⟨r1, r2, -⟩ := rt_x t (by omega) (by omega)
  have l4' := l4 (by omega)
  obtain ⟨J2, m1, m2, m3⟩ := rq_puts hB.1 hB.2.2.2.2.2.2 (by omega) k8 (tc t v)
  obtain ⟨J3, o1, o2, o3⟩ := rq_unw' (J := J2) (r := 7) (H := H) (H0 := H0) (pend := List.replicate j 19) hB.1 hB.2.2.2.2.2.2 (by omega) hH0 eH (by simp only [List.length_append, List.length_singleton]; omega) m2 (fun x hx => by rw [List.eq_of_mem_replicate hx]; decide)
  have hop : opn H0 ≤ opn H := by
    rw [eH]
    clear eH o1 o2 o3 J3
    induction j with
    | zero => exact Nat.le_refl _
    | succ j ih => rw [List.replicate_succ, List.cons_append, opn]; omega
  have hlen : H.length = j + H0.length := by rw [eH]; simp
  refine ⟨J3, fun f => ?_, ?_, o2, ?_, by omega⟩
  · rw [X6_eRead_l14, k1, po_b, if_neg (by decide), k4]
    simp only [pj_j]
    rcases ht with ht | ht
    · have e1 : rtk t = 1 := r1.mpr ht
      have e3 : (100000 : Int32) + J1 0 20 = nI (tc t v) := by rw [k5 ht, pn_ar]; unfold tc; rw [if_pos ht]
      rw [if_pos e1, if_pos e1, e3, m1, po_b]
      show (X6_unwinds (nI 7) J2).bind _ = _
      rw [o1, po_b]
    · have e1 : ¬ rtk t = 1 := fun hh => by have := r1.mp hh; omega
      have e2 : rtk t = 2 := r2.mpr ht
      have e3 : J1 0 20 = nI (tc t v) := by rw [k7 ht]; unfold tc; rw [if_neg (by omega)]
      rw [if_neg e1, if_pos e2, if_neg e1, e3, m1, po_b]
      show (X6_unwinds (nI 7) J2).bind _ = _
      rw [o1, po_b]
  · rw [o3 17 (by omega) (by omega), m3 17 (by omega) (by omega), k2]
  · simp only [List.length_append, List.length_singleton, List.length_replicate]
    omega
/-- minus, an opening, a not -/
theorem s_open {n z : Nat} {b : Nat → Nat} {J0 J : mh_I} {p s e t v x : Nat} {H O : List Nat} {u2 w2 : Int32} (hB : BS n z b J0) (h : RS n J0 J p H O) (hx : LX b z p s e t v) (ht : (t = 45 ∧ x = 19 ∧ w2 = 0) ∨ (t = 40 ∧ x = 0 ∧ w2 = 1) ∨ (t = 305 ∧ x = 13 ∧ u2 ≠ 0 ∧ w2 = u2)) : (opn H = 5 ∧ Rf n J0 J 1 u2 s 1) ∨ (opn H < 5 ∧ ∃ J', Rt J 1 u2 J' 1 w2 1 ∧ RS n J0 J' e (x :: H) O) := by
  obtain ⟨J1, k1, k2, k3, k4, k5, k6, k7, k8⟩ := rs_next hB h hx
  obtain ⟨l1, l2, l3, l4, l5, l6⟩ := lx_le hx
  have hB2 := hB.2.1
  obtain ⟨R1, R2, R3, R4⟩ := h
  obtain ⟨r1, r2, r3, r4, r5, -⟩ := rt_x t (by omega) (by omega)
  have l4' := l4 (by omega)
  have e1 : ¬ rtk t = 1 := fun hh => by have := r1.mp hh; omega
  have e2 : ¬ rtk t = 2 := fun hh => by have := r2.mp hh; omega
  rcases rq_opens (H := H) (O := O) (x := x) (by omega) k8 R4 (by omega) with ⟨o1, o2⟩ | ⟨o1, J2, o2, o3, o4⟩
  · refine .inl ⟨o1, J1, fun f => ?_, k3, k8.2.2.2.2.2⟩
    rw [X6_eRead_l14, k1, po_b, if_neg (by decide), k4]
    simp only [pj_j]
    rw [if_neg e1, if_neg e2]
    rcases ht with ⟨rfl, rfl, rfl⟩ | ⟨rfl, rfl, rfl⟩ | ⟨rfl, rfl, h2, rfl⟩
    · rw [if_neg (by decide), if_pos (by decide)]
      show (X6_opensOne (nI 19) J1).bind _ = _
      rw [o2, po_b, if_pos rfl]
    · rw [if_neg (by decide), if_neg (by decide), if_pos (by decide)]
      show (X6_opensOne (nI 0) J1).bind _ = _
      rw [o2, po_b, if_pos rfl]
    · rw [if_pos (by decide), if_neg h2]
      show (X6_opensOne (nI 13) J1).bind _ = _
      rw [o2, po_b, if_pos rfl]
  · refine .inr ⟨o1, J2, fun f => ?_, ?_, o3, by simp only [List.length_cons]; omega, ?_⟩
    · rw [X6_eRead_l14, k1, po_b, if_neg (by decide), k4]
      simp only [pj_j]
      rw [if_neg e1, if_neg e2]
      rcases ht with ⟨rfl, rfl, rfl⟩ | ⟨rfl, rfl, rfl⟩ | ⟨rfl, rfl, h2, rfl⟩
      · rw [if_neg (by decide), if_pos (by decide)]
        show (X6_opensOne (nI 19) J1).bind _ = _
        rw [o2, po_b, if_neg (show ¬ (1 : Int32) = 0 by decide)]
      · rw [if_neg (by decide), if_neg (by decide), if_pos (by decide)]
        show (X6_opensOne (nI 0) J1).bind _ = _
        rw [o2, po_b, if_neg (show ¬ (1 : Int32) = 0 by decide)]
      · rw [if_pos (by decide), if_neg h2]
        show (X6_opensOne (nI 13) J1).bind _ = _
        rw [o2, po_b, if_neg (show ¬ (1 : Int32) = 0 by decide)]
    · rw [o4 17 (by omega) (by omega), k2]
    · rw [opn, if_pos (by omega)]; omega
theorem s_bad {n z : Nat} {b : Nat → Nat} {J0 J : mh_I} {p s e t v : Nat} {H O : List Nat} {u2 : Int32} (hB : BS n z b J0) (h : RS n J0 J p H O) (hx : LX b z p s e t v) (ht : ¬ t = 2 ∧ ¬ 306 ≤ t ∧ ¬ t = 45 ∧ ¬ t = 40 ∧ (t = 305 → u2 = 0)) : Rf n J0 J 1 u2 s 1 := by
  obtain ⟨J1, k1, k2, k3, k4, k5, k6, k7, k8⟩ := rs_next hB h hx
  obtain ⟨l1, l2, l3, l4, l5, l6⟩ := lx_le hx
  obtain ⟨r1, r2, r3, r4, r5, -⟩ := rt_x t (by omega) (by omega)
  refine ⟨J1, fun f => ?_, k3, k8.2.2.2.2.2⟩
  rw [X6_eRead_l14, k1, po_b, if_neg (by decide), k4]
  simp only [pj_j]
  rw [if_neg (fun hh => ht.1 (r1.mp hh)), if_neg (fun hh => ht.2.1 (r2.mp hh)), if_neg (fun hh => ht.2.2.1 (r3.mp hh)), if_neg (fun hh => ht.2.2.2.1 (r4.mp hh))]
  by_cases c : rtk t = 6
  · rw [if_pos c, if_pos (ht.2.2.2.2 (r5.mp c))]
  · rw [if_neg c]
/-- an operator -/
def lst (q : Nat) : Nat := if rkn q = 4 then 5 else rkn q
theorem lst_x : ∀ q, q < 19 → 11 ≤ q → 0 < lst q ∧ lst q < 10 ∧ (rkn q = 4 → lst q = 5) ∧ (rkn q ≠ 4 → lst q = rkn q) := by decide +kernel
theorem s_signof {J1 : mh_I} {t : Nat} (k4 : J1 0 19 = rtk t) (h1 : t < 312) (h2 : t ≤ 2 ∨ 40 ≤ t ∧ t ≤ 61 ∨ 300 ≤ t) : X6_signOf J1 = some (if sg t = 0 then -1 else nI (sg t)) := by
  unfold X6_signOf
  rw [k4]
  exact sg_x t h1 h2
theorem sg_ne {t : Nat} (h : sg t ≠ 0) : t ≠ 59 ∧ t ≠ 41 ∧ t ≠ 0 := by
  refine ⟨?_, ?_, ?_⟩ <;> (rintro rfl; exact h (by decide))
theorem rk_n4 {x : Nat} (h : rkn x ≠ 4) : ¬ nI (rkn x) = (4 : Int32) := fun hh => by
  have := rk_l x
  exact h ((nI_eq (by omega) (by decide)).mp (show nI _ = nI 4 from hh))
theorem s_between {n : Nat} {J0 J1 : mh_I} {q : Nat} {H pend H0 O : List Nat} (hn : n < 6) (h8 : J0 0 8 = nI n) (hq : 11 ≤ q ∧ q ≤ 18 ∧ q ≠ 13) (e : H = pend ++ H0) (hl : O.length + H.length ≤ 160) (h : RQ n J0 J1 H O) (hp : ∀ x, x ∈ pend → lst q ≤ rkn x) (hH : ∀ x T, H0 = x :: T → rkn x < lst q) : ((rkn q = 4 ∧ ∃ x T, H0 = x :: T ∧ rkn x = 4) ∧ ∃ J', X6_between (nI q) J1 = some (0, J') ∧ RF n J0 J' ∧ J' 0 18 = J1 0 18) ∨ ((rkn q = 4 → ∀ x T, H0 = x :: T → rkn x ≠ 4) ∧ ∃ J', X6_between (nI q) J1 = some (1, J') ∧ RQ n J0 J' (q :: H0) (O ++ pend) ∧ J' 0 17 = J1 0 17) := by
  obtain ⟨a1, a2, a3, a4⟩ := lst_x q (by omega) hq.1
  have hk := rk_l q
  obtain ⟨J2, o1, o2, o3⟩ := rq_unw' hn h8 ⟨a1, a2⟩ hH e hl h hp
  have hlen : pend.length + H0.length = H.length := by rw [e]; simp
  obtain ⟨J3, p1, p2, p3⟩ := rq_holds (by omega) o2 (x := q) hq
  have base : X6_between (nI q) J1 = (if nI (rkn q) = (4 : Int32) then if (J2 0 23) ≤ 0 then some ((1 : Int32), J3) else mh_ix ((J2 0 23) - (1 : Int32)) 200 (fun k9 => (X6_rank (J2 14 k9)).bind (fun q11 => if q11 = (4 : Int32) then some ((0 : Int32), J2) else some ((1 : Int32), J3))) else some ((1 : Int32), J3)) := by
    unfold X6_between
    rw [rk_x q (by omega), po_b, pj_j]
    have : (if nI (rkn q) = (4 : Int32) then (X6_unwinds 5 J1) else (X6_unwinds (nI (rkn q)) J1)) = some J2 := by
      by_cases c : rkn q = 4
      · rw [if_pos (by rw [c]; rfl), ← o1, a3 c]; rfl
      · rw [if_neg (rk_n4 c), ← o1, a4 c]
    by_cases c : nI (rkn q) = (4 : Int32)
    · rw [if_pos c] at this
      rw [if_pos c]
      dsimp only
      rw [this, po_b, po_b, pj_j, p1, po_b]
    · rw [if_neg c] at this
      rw [if_neg c, po_b]
      dsimp only
      rw [this, po_b, po_b, pj_j, p1, po_b]
  by_cases c : rkn q = 4
  · have ci : nI (rkn q) = (4 : Int32) := by rw [c]; rfl
    rw [if_pos ci] at base
    obtain ⟨q1, q2, q3, q4, q5, q6⟩ := o2
    cases hH0 : H0 with
    | nil =>
      right
      rw [hH0] at q1 p2
      rw [q1, if_pos (by decide)] at base
      exact ⟨fun _ x T hh => (by cases hh), J3, base, p2, by rw [p3 17 (by omega) (by omega), o3 17 (by omega) (by omega)]⟩
    | cons x T =>
      rw [hH0] at q1 q5 p2 hlen
      simp only [List.length_cons] at q1 hlen
      rw [q1, if_neg (show ¬ nI (T.length + 1) ≤ (0 : Int32) from (nI_ge (by omega) (by omega) : ¬ nI (T.length + 1) ≤ nI 0)), pn_sl (by omega), show T.length + 1 - 1 = T.length by omega, px_ix (show T.length < 200 by omega) (by decide), q5.1, rk_x x (by have := q5.2.1; omega), po_b] at base
      have hkx := rk_l x
      by_cases d : rkn x = 4
      · rw [if_pos (by rw [d]; rfl)] at base
        exact .inl ⟨⟨c, x, T, rfl, d⟩, J2, base, q6, o3 18 (by omega) (by omega)⟩
      · rw [if_neg (rk_n4 d)] at base
        exact .inr ⟨fun _ y U hh => (by cases hh; exact d), J3, base, p2, by rw [p3 17 (by omega) (by omega), o3 17 (by omega) (by omega)]⟩
  · rw [if_neg (rk_n4 c)] at base
    exact .inr ⟨fun hh => absurd hh c, J3, base, p2, by rw [p3 17 (by omega) (by omega), o3 17 (by omega) (by omega)]⟩
