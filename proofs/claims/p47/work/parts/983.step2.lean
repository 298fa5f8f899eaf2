/-! PURE: the reference's reader, one step after an operand -/
theorem opn_app (P H : List Nat) : opn (P ++ H) = opn P + opn H := by
  induction P with
  | nil => simp [opn]
  | cons x P ih => rw [List.cons_append, opn, ih, opn]; omega
theorem s_sign {n z : Nat} {b : Nat → Nat} {J0 J : mh_I} {p s e t v : Nat} {H pend H0 O : List Nat} {u2 : Int32} (hB : BS n z b J0) (h : RS n J0 J p H O) (hx : LX b z p s e t v) (ht : sg t ≠ 0) (eH : H = pend ++ H0) (hp : ∀ x, x ∈ pend → lst (sg t) ≤ rkn x) (hH : ∀ x T, H0 = x :: T → rkn x < lst (sg t)) : ((rkn (sg t) = 4 ∧ ∃ x T, H0 = x :: T ∧ rkn x = 4) ∧ Rf n J0 J 0 u2 s 1) ∨ ((rkn (sg t) = 4 → ∀ x T, H0 = x :: T → rkn x ≠ 4) ∧ ∃ J', Rt J 0 u2 J' 1 (if 12 < sg t then 0 else 1) 1 ∧ RS n J0 J' e (sg t :: H0) (O ++ pend)) := by
  obtain ⟨J1, k1, k2, k3, k4, k5, k6, k7, k8⟩ := rs_next hB h hx
  obtain ⟨l1, l2, l3, l4, l5, l6⟩ := lx_le hx
  have hB2 := hB.2.1
  obtain ⟨R1, R2, R3, R4⟩ := h
  obtain ⟨r1, r2, r3, r4, r5, r6, r7, r8, r9⟩ := rt_x t (by omega) (by omega)
  obtain ⟨n1, n2, n3⟩ := sg_ne ht
  have l4' := l4 n3
  have hq : 11 ≤ sg t ∧ sg t ≤ 18 ∧ sg t ≠ 13 := by
    rcases sg_r t with h | h
    · exact absurd h ht
    · exact h
  have hsg := s_signof k4 (by omega) (by omega)
  rw [if_neg ht] at hsg
  have hm1 : ¬ nI (sg t) = (-1 : Int32) := by rw [pn_neg (by omega)]; exact id
  have base : ∀ f, X6_eRead_l14 KK (f + 1) 0 u2 J = (X6_between (nI (sg t)) J1).bind (fun q3 => if q3.1 = 0 then some ((0 : Int32), q3.2) else X6_eRead_l14 KK f 1 (if 12 < sg t then 0 else 1) q3.2) := by
    intro f
    rw [X6_eRead_l14, k1, po_b, if_pos rfl, k4, if_neg (fun hh => n1 (r6.mp hh)), if_neg (fun hh => n2 (r7.mp hh)), hsg, po_b, if_neg hm1]
    refine congrArg _ (funext fun q3 => ?_)
    by_cases c : q3.1 = 0
    · rw [if_pos c, if_pos c]
    · rw [if_neg c, if_neg c, pj_j]
      by_cases d : 12 < sg t
      · rw [if_pos (show (12 : Int32) < nI (sg t) from (nI_lt d (by omega) : nI 12 < nI (sg t))), if_pos d]
      · rw [if_neg (show ¬ (12 : Int32) < nI (sg t) from (nI_nlt (by omega) (by omega) : ¬ nI 12 < nI (sg t))), if_neg d]
  have hlen : H.length = pend.length + H0.length := by rw [eH]; simp
  rcases s_between (J1 := J1) hB.1 hB.2.2.2.2.2.2 hq eH (by omega) k8 hp hH with ⟨c1, J2, c2, c3, c4⟩ | ⟨c1, J2, c2, c3, c4⟩
  · refine .inl ⟨c1, J2, fun f => ?_, by rw [c4, k3], c3⟩
    rw [base, c2, po_b, if_pos rfl]
  · refine .inr ⟨c1, J2, fun f => ?_, by rw [c4, k2], c3, ?_, ?_⟩
    · rw [base, c2, po_b, if_neg (show ¬ (1 : Int32) = 0 by decide)]
    · simp only [List.length_append, List.length_cons]; omega
    · rw [opn, if_neg (by omega)]
      rw [eH, opn_app] at R4
      omega
theorem s_badop {n z : Nat} {b : Nat → Nat} {J0 J : mh_I} {p s e t v : Nat} {H O : List Nat} {u2 : Int32} (hB : BS n z b J0) (h : RS n J0 J p H O) (hx : LX b z p s e t v) (ht : sg t = 0 ∧ t ≠ 59 ∧ t ≠ 41) : Rf n J0 J 0 u2 s 1 := by
  obtain ⟨J1, k1, k2, k3, k4, k5, k6, k7, k8⟩ := rs_next hB h hx
  obtain ⟨l1, l2, l3, l4, l5, l6⟩ := lx_le hx
  obtain ⟨r1, r2, r3, r4, r5, r6, r7, r8, r9⟩ := rt_x t (by omega) (by omega)
  have hsg := s_signof k4 (by omega) (by omega)
  rw [if_pos ht.1] at hsg
  refine ⟨J1, fun f => ?_, k3, k8.2.2.2.2.2⟩
  rw [X6_eRead_l14, k1, po_b, if_pos rfl, k4, if_neg (fun hh => ht.2.1 (r6.mp hh)), if_neg (fun hh => ht.2.2 (r7.mp hh)), hsg, po_b, if_pos rfl]
theorem rk_0 {x : Nat} {pend : List Nat} (hp : ∀ x, x ∈ pend → 1 ≤ rkn x) : ∀ x, x ∈ pend → 1 ≤ rkn x := hp
theorem s_close {n z : Nat} {b : Nat → Nat} {J0 J : mh_I} {p s e v j : Nat} {H pend H1 H0 O : List Nat} {u2 : Int32} (hB : BS n z b J0) (h : RS n J0 J p H O) (hx : LX b z p s e 41 v) (eH : H = pend ++ 0 :: H1) (hp : ∀ x, x ∈ pend → 1 ≤ rkn x) (eH1 : H1 = List.replicate j 19 ++ H0) (hH0 : ∀ x T, H0 = x :: T → rkn x < 7) : ∃ J', Rt J 0 u2 J' 0 u2 1 ∧ RS n J0 J' e H0 (O ++ pend ++ List.replicate j 19) := by
  obtain ⟨J1, k1, k2, k3, k4, k5, k6, k7, k8⟩ := rs_next hB h hx
  obtain ⟨l1, l2, l3, l4, l5, l6⟩ := lx_le hx
  have hB2 := hB.2.1
  obtain ⟨R1, R2, R3, R4⟩ := h
  have l4' := l4 (by decide)
  have hlen : H.length = pend.length + (H1.length + 1) := by rw [eH]; simp
  have hlen1 : H1.length = j + H0.length := by rw [eH1]; simp
  have hop : opn H = opn pend + (opn H1 + 1) := by rw [eH, opn_app, opn, if_pos (.inl rfl)]
  have hop1 : opn H1 = opn (List.replicate j 19) + opn H0 := by rw [eH1, opn_app]
  obtain ⟨J2, o1, o2, o3⟩ := rq_unw' (J := J1) (r := 1) (H := H) (H0 := 0 :: H1) (pend := pend) hB.1 hB.2.2.2.2.2.2 (by omega) (fun x T hh => by cases hh; decide) eH (by omega) k8 hp
  obtain ⟨q1, q2, q3, q4, q5, q6⟩ := o2
  simp only [List.length_cons] at q1
  rw [opn, if_pos (.inl rfl)] at q2
  have f23 : (mh_u J2 0 23 ((J2 0 23) - (1 : Int32))) 0 24 = J2 0 24 := pu_k (by decide)
  obtain ⟨J3, p1, p2, p3⟩ := rq_unw' (n := n) (J0 := J0) (J := mh_u (mh_u J2 0 23 ((J2 0 23) - (1 : Int32))) 0 24 (((mh_u J2 0 23 ((J2 0 23) - (1 : Int32))) 0 24) - (1 : Int32))) (r := 7) (H := H1) (H0 := H0) (pend := List.replicate j 19) (O := O ++ pend) hB.1 hB.2.2.2.2.2.2 (by omega) hH0 eH1 (by simp only [List.length_append]; omega) ⟨by rw [pu_k (by decide), pu_s, q1, pn_sl (by omega)]; rfl, by rw [pu_s, f23, q2, pn_sl (by omega)]; exact congrArg nI (by omega), by rw [pu_k (by decide), pu_k (by decide), q3], fun i hi => by rw [pu_a (by decide), pu_a (by decide), q4 i hi], HL_fr q5.2.2 (fun i _ => by rw [pu_a (by decide), pu_a (by decide)]), fun a i h1 h2 h3 => by rw [show mh_u (mh_u J2 0 23 ((J2 0 23) - (1 : Int32))) 0 24 _ a i = mh_u J2 0 23 ((J2 0 23) - (1 : Int32)) a i from if_neg (by omega), show mh_u J2 0 23 ((J2 0 23) - (1 : Int32)) a i = J2 a i from if_neg (by omega), q6 a i h1 h2 h3]⟩ (fun x hx => by rw [List.eq_of_mem_replicate hx]; decide)
  refine ⟨J3, fun f => ?_, ?_, p2, ?_, by omega⟩
  · rw [X6_eRead_l14, k1, po_b, if_pos rfl, k4, if_neg (by decide), if_pos (by decide)]
    show (X6_unwinds (nI 1) J1).bind _ = _
    rw [o1, po_b, if_neg (show ¬ J2 0 23 = 0 by rw [q1]; exact fun hh => by have := (nI_eq (by omega) (by decide)).mp (show nI (H1.length + 1) = nI 0 from hh); omega)]
    show (X6_unwinds (nI 7) _).bind _ = _
    rw [p1, po_b]
  · rw [p3 17 (by omega) (by omega), pu_k (by decide), pu_k (by decide), o3 17 (by omega) (by omega), k2]
  · simp only [List.length_append, List.length_replicate]; omega
theorem s_close0 {n z : Nat} {b : Nat → Nat} {J0 J : mh_I} {p s e v : Nat} {H O : List Nat} {u2 : Int32} (hB : BS n z b J0) (h : RS n J0 J p H O) (hx : LX b z p s e 41 v) (hp : ∀ x, x ∈ H → 1 ≤ rkn x) : Rf n J0 J 0 u2 s 1 := by
  obtain ⟨J1, k1, k2, k3, k4, k5, k6, k7, k8⟩ := rs_next hB h hx
  obtain ⟨l1, l2, l3, l4, l5, l6⟩ := lx_le hx
  have hB2 := hB.2.1
  obtain ⟨R1, R2, R3, R4⟩ := h
  obtain ⟨J2, o1, o2, o3⟩ := rq_unw' (J := J1) (r := 1) (H := H) (H0 := []) (pend := H) hB.1 hB.2.2.2.2.2.2 (by omega) (fun x T hh => by cases hh) (List.append_nil _).symm (by omega) k8 hp
  refine ⟨J2, fun f => ?_, by rw [o3 18 (by omega) (by omega), k3], o2.2.2.2.2.2⟩
  rw [X6_eRead_l14, k1, po_b, if_pos rfl, k4, if_neg (by decide), if_pos (by decide)]
  show (X6_unwinds (nI 1) J1).bind _ = _
  rw [o1, po_b, if_pos (show J2 0 23 = 0 from o2.1)]
theorem s_end {n z : Nat} {b : Nat → Nat} {J0 J : mh_I} {p s e v : Nat} {H O : List Nat} {u2 : Int32} (hB : BS n z b J0) (h : RS n J0 J p H O) (hx : LX b z p s e 59 v) (hp : ∀ x, x ∈ H → 1 ≤ rkn x) : ∃ J', (∀ f, X6_eRead_l14 KK (f + 1) 0 u2 J = some (1, J')) ∧ RS n J0 J' e [] (O ++ H) := by
  obtain ⟨J1, k1, k2, k3, k4, k5, k6, k7, k8⟩ := rs_next hB h hx
  obtain ⟨l1, l2, l3, l4, l5, l6⟩ := lx_le hx
  have hB2 := hB.2.1
  obtain ⟨R1, R2, R3, R4⟩ := h
  obtain ⟨J2, o1, o2, o3⟩ := rq_unw' (J := J1) (r := 1) (H := H) (H0 := []) (pend := H) hB.1 hB.2.2.2.2.2.2 (by omega) (fun x T hh => by cases hh) (List.append_nil _).symm (by omega) k8 hp
  refine ⟨J2, fun f => ?_, by rw [o3 17 (by omega) (by omega), k2], o2, by simp only [List.length_append, List.length_nil]; omega, by decide⟩
  rw [X6_eRead_l14, k1, po_b, if_pos rfl, k4, if_pos (by decide)]
  show (X6_unwinds (nI 1) J1).bind _ = _
  rw [o1, po_b, if_pos (show J2 0 23 = 0 from o2.1)]
theorem s_end0 {n z : Nat} {b : Nat → Nat} {J0 J : mh_I} {p s e v : Nat} {H pend H1 O : List Nat} {u2 : Int32} (hB : BS n z b J0) (h : RS n J0 J p H O) (hx : LX b z p s e 59 v) (eH : H = pend ++ 0 :: H1) (hp : ∀ x, x ∈ pend → 1 ≤ rkn x) : Rf n J0 J 0 u2 s 1 := by
  obtain ⟨J1, k1, k2, k3, k4, k5, k6, k7, k8⟩ := rs_next hB h hx
  obtain ⟨l1, l2, l3, l4, l5, l6⟩ := lx_le hx
  have hB2 := hB.2.1
  obtain ⟨R1, R2, R3, R4⟩ := h
  have hlen : H.length = pend.length + (H1.length + 1) := by rw [eH]; simp
  obtain ⟨J2, o1, o2, o3⟩ := rq_unw' (J := J1) (r := 1) (H := H) (H0 := 0 :: H1) (pend := pend) hB.1 hB.2.2.2.2.2.2 (by omega) (fun x T hh => by cases hh; decide) eH (by omega) k8 hp
  refine ⟨J2, fun f => ?_, by rw [o3 18 (by omega) (by omega), k3], o2.2.2.2.2.2⟩
  rw [X6_eRead_l14, k1, po_b, if_pos rfl, k4, if_pos (by decide)]
  show (X6_unwinds (nI 1) J1).bind _ = _
  rw [o1, po_b, if_neg (show ¬ J2 0 23 = 0 by rw [o2.1]; exact fun hh => by have := (nI_eq (by simp only [List.length_cons]; omega) (by decide)).mp (show nI (0 :: H1).length = nI 0 from hh); simp at this)]
