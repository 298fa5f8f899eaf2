/-! PURE: the readers agree on one part -/
theorem c_stop {n z : Nat} {b : Nat → Nat} {J0 J : mh_I} {p s e t v : Nat} {pend H O : List Nat} {u2 : Int32} (hB : BS n z b J0) (h : RS n J0 J p (pend ++ H) O) (hx : LX b z p s e t v) (hc : Cond 0 pend t) (h41 : t ≠ 41) (h59 : t ≠ 59) : Rf n J0 J 0 u2 s 1 := by
  obtain ⟨l1, l2, l3, l4, l5, l6⟩ := lx_le hx
  by_cases c : sg t = 0
  · exact s_badop hB h hx ⟨c, h59, h41⟩
  · obtain ⟨k1, k2⟩ := sg_k t (by omega) c
    have hr0 : rhoH 0 = 1 := rfl
    obtain ⟨d1, a, x, r, d2, d3, d4⟩ := hc c (by omega)
    have hq : sg t < 19 ∧ 11 ≤ sg t := by
      rcases sg_r t with h | h <;> omega
    obtain ⟨m1, m2, m3, m4⟩ := lst_x (sg t) hq.1 hq.2
    have m3' := m3 d1
    rcases s_sign (u2 := u2) (pend := a) (H0 := x :: (r ++ H)) hB h hx c (by rw [d2]; simp) (fun y hy => by have := d3 y hy; omega) (fun y T hh => by cases hh; omega) with ⟨-, g⟩ | ⟨g, -⟩
    · exact g
    · exact absurd d4 (g d1 x _ rfl)
theorem c_one {tx z n : Nat} {b : Nat → Nat} {I0 J0 : mh_I} (hBI : BI tx z b I0) (hBS : BS n z b J0) {f : Nat} (ih : ∀ g, g < f → PC tx z n b I0 J0 g ∧ PO tx z n b I0 J0 g) : PO tx z n b I0 J0 f := by
  intro k j I J p s e t v O H H0 u2 hk hf hC hR hop eH hH0 h305
  obtain ⟨g, rfl⟩ : ∃ g, f = g + 1 := ⟨f - 1, by omega⟩
  have hx := hC.2.2.2.2.1
  obtain ⟨l1, l2, l3, l4, l5, l6⟩ := lx_le hx
  have hz := hBS.2.1
  have hRl := hR.2.2.1
  have e0 : X3_grp tx (g + 1) 2 (nI k) 0 I = X3_one (X3_grp tx g) tx (nI k) I := by
    rw [X3_grp, if_neg (by decide), if_neg (by decide), if_pos rfl]
  rw [e0]
  unfold X3_one
  rw [pj_j, hC.2.2.1]
  by_cases c1 : t = 2 ∨ 306 ≤ t
  · have l4' := l4 (by omega)
    have hleaf : (t = 2 ∧ v < 10000) ∨ (306 ≤ t ∧ t < 312) := by
      rcases c1 with c | c
      · exact .inl ⟨c, l6 c⟩
      · exact .inr ⟨c, by omega⟩
    obtain ⟨J', a1, a2⟩ := s_operand (u2 := u2) hBS hR hx c1 eH hH0
    have hco := co_tc hleaf
    obtain ⟨I1, b1, b2⟩ := c_add hBI hC (by omega) hco.symm
    obtain ⟨I2, s2, e2, t2, v2, d1, d2⟩ := c_adv' hBI b2
    right
    refine ⟨I2, J', e, s2, e2, t2, v2, [tc t v], u2, 1, ?_, d2, ?_, by omega, a2, fun d hd => wl_leaf hleaf (by unfold dk at hd; omega)⟩
    · by_cases c2 : t = 2
      · rw [if_pos c2] at b1
        rw [if_pos (show nI t = (2 : Int32) by rw [c2]; rfl), hC.2.2.2.1 c2, b1, po_b]
        try dsimp only
        rw [d1, po_b]
      · rw [if_neg c2] at b1
        have w1 : X5_within (nI t) 306 311 = some 1 := by
          unfold X5_within
          rw [if_neg (show ¬ nI t < (306 : Int32) from (nI_nlt (by omega) (by omega) : ¬ nI t < nI 306)), if_neg (show ¬ (311 : Int32) < nI t from (nI_nlt (by omega) (by omega) : ¬ nI 311 < nI t))]
        rw [if_neg (show ¬ nI t = (2 : Int32) from fun hh => c2 ((nI_eq (by omega) (by decide)).mp (show nI t = nI 2 from hh))), w1, po_b, if_neg (by decide), b1, po_b]
        try dsimp only
        rw [d1, po_b]
    · exact a1
  · have c2 : t ≠ 2 := fun hh => c1 (.inl hh)
    have w0 : X5_within (nI t) 306 311 = some 0 := by
      unfold X5_within
      rw [if_pos (show nI t < (306 : Int32) from (nI_lt (by omega) (by omega) : nI t < nI 306))]
    rw [if_neg (show ¬ nI t = (2 : Int32) from fun hh => c2 ((nI_eq (by omega) (by decide)).mp (show nI t = nI 2 from hh))), w0, po_b, if_pos rfl, pj_j]
    by_cases c3 : t = 45 ∨ t = 40
    · have l4' := l4 (by omega)
      have hX : ∀ X Y : Option (Int32 × mh_I), (if nI t = (45 : Int32) then X else if nI t = (40 : Int32) then X else Y) = X := by
        intro X Y
        rcases c3 with rfl | rfl
        · exact if_pos rfl
        · rw [if_neg (by decide)]; exact if_pos rfl
      rw [hX]
      by_cases c5 : k = 5
      · left
        rw [if_pos (by rw [c5]; decide)]
        have hopen : Rf n J0 J 1 u2 s 1 := by
          rcases c3 with rfl | rfl
          · rcases s_open (u2 := u2) (x := 19) (w2 := 0) hBS hR hx (.inl ⟨rfl, rfl, rfl⟩) with ⟨-, g⟩ | ⟨g, -⟩
            · exact g
            · omega
          · rcases s_open (u2 := u2) (x := 0) (w2 := 1) hBS hR hx (.inr (.inl ⟨rfl, rfl, rfl⟩)) with ⟨-, g⟩ | ⟨g, -⟩
            · exact g
            · omega
        exact ⟨I, s, rfl, hC.2.2.2.2.2.2, hC.2.1, by omega, 1, by omega, hopen⟩
      · rw [if_neg (show ¬ (5 : Int32) ≤ nI k from (nI_ge (by omega) (by omega) : ¬ nI 5 ≤ nI k)), show nI k + (1 : Int32) = nI (k + 1) from nI_add k 1]
        obtain ⟨g', rfl⟩ : ∃ g', g = g' + 1 := ⟨g - 1, by omega⟩
        have e1 : X3_grp tx (g' + 1) 3 (nI (k + 1)) 0 I = X3_opened (X3_grp tx g') tx (nI (k + 1)) I := by
          rw [X3_grp, if_neg (by decide), if_neg (by decide), if_neg (by decide)]
        rw [e1]
        unfold X3_opened
        rw [pj_j, hC.2.2.1]
        obtain ⟨I1, s1, e1', t1, v1, a1, a2⟩ := c_adv' hBI hC
        rcases c3 with rfl | rfl
        · -- minus
          rcases s_open (u2 := u2) (x := 19) (w2 := 0) hBS hR hx (.inl ⟨rfl, rfl, rfl⟩) with ⟨g, -⟩ | ⟨-, J1, b1, b2⟩
          · omega
          rw [if_pos (by decide)]
          dsimp only
          rw [a1, po_b, if_neg (by decide)]
          rcases (ih g' (by omega)).2 (k + 1) (j + 1) I1 J1 e s1 e1' t1 v1 O (19 :: H) H0 0 (by omega) (by omega) a2 b2 (by rw [opn, if_pos (.inr (.inr rfl)), hop]) (by rw [eH, List.replicate_succ, List.cons_append]) hH0 (fun _ => rfl) with ⟨I', s', d1, d2, d3, d3', c, d4, d5⟩ | ⟨I2, J2, p2, s2, e2, t2, v2, E1, w3, c, d1, d2, d3, d4, d5, d6⟩
          · left
            refine ⟨I', s', ?_, d2, d3, d3', c + 1, by omega, Rt_f b1 d5⟩
            rw [d1, po_b]
            try dsimp only
            rw [if_pos rfl, po_b]
            try dsimp only
            rw [if_pos rfl]
          · right
            have hlen := d5.2.2.1
            have hb2 := lx_le d2.2.2.2.2.1
            simp only [List.length_append, List.length_replicate] at hlen
            obtain ⟨I3, f1, f2⟩ := c_add (x := 19) (w := -3) hBI d2 (by simp only [List.length_append]; omega) (by decide)
            refine ⟨I3, J2, p2, s2, e2, t2, v2, E1 ++ [19], w3, c + 1, ?_, by rw [← List.append_assoc]; exact f2, Rt_t b1 d3, by omega, ?_, fun d hd => wl_app (d6 d (by unfold dk at *; omega)) (wl_un (.inr rfl) (by omega))⟩
            · rw [d1, po_b, if_neg (show ¬ (1 : Int32) = 0 by decide)]
              try dsimp only
              rw [f1, po_b, po_b, if_neg (show ¬ (1 : Int32) = 0 by decide)]
            · rw [List.replicate_succ] at d5
              have : O ++ (E1 ++ [19]) ++ List.replicate j 19 = O ++ E1 ++ 19 :: List.replicate j 19 := by simp
              rw [this]
              exact d5
        · -- an opening
          rcases s_open (u2 := u2) (x := 0) (w2 := 1) hBS hR hx (.inr (.inl ⟨rfl, rfl, rfl⟩)) with ⟨g, -⟩ | ⟨-, J1, b1, b2⟩
          · omega
          rw [if_neg (by decide)]
          dsimp only
          rw [a1, po_b, if_pos rfl]
          rcases (ih g' (by omega)).1 0 (k + 1) I1 J1 e s1 e1' t1 v1 O (0 :: H) 1 (by omega) (by omega) (by omega) a2 b2 (by rw [opn, if_pos (.inl rfl), hop]) (fun x T hh => by cases hh; decide) (fun _ => ⟨fun _ => by decide, fun hh => by omega⟩) with ⟨I', s', d1, d2, d3, d3', c, d4, d5⟩ | ⟨I2, J2, p2, s2, e2, t2, v2, E1, O2, pend, w3, c, d1, d2, d3, d4, d5, d6, d7, d8, d9⟩
          · left
            refine ⟨I', s', ?_, d2, d3, d3', c + 1, by omega, Rt_f b1 d5⟩
            rw [show nI 0 = (0 : Int32) from rfl] at d1
            rw [d1, po_b]
            try dsimp only
            rw [if_pos rfl, po_b]
            try dsimp only
            rw [if_pos rfl]
          · rw [show nI 0 = (0 : Int32) from rfl] at d1
            rw [d1, po_b, if_neg (show ¬ (1 : Int32) = 0 by decide)]
            try dsimp only
            have hb2 := lx_le d2.2.2.2.2.1
            have h24 := d2.2.2.1
            by_cases c41 : t2 = 41
            · right
              rw [if_pos (show I2 7 4 = (41 : Int32) by rw [h24, c41]; rfl)]
              obtain ⟨I3, s3, e3, t3, v3, f1, f2⟩ := c_adv' hBI d2
              have hx2 := d2.2.2.2.2.1
              rw [c41] at hx2
              obtain ⟨J3, h1, h2⟩ := s_close (u2 := w3) hBS d5 hx2 rfl (fun x hxx => d7 x hxx) eH hH0
              have hlt := hb2.2.2.2.1 (by omega)
              refine ⟨I3, J3, e2, s3, e3, t3, v3, E1, w3, 1 + (c + 1), ?_, f2, Rt_t (Rt_t b1 d3) h1, by omega, ?_, fun d hd => d9 d (by unfold dk at *; omega)⟩
              · rw [f1, po_b, po_b]
                try dsimp only
                rw [if_neg (show ¬ (1 : Int32) = 0 by decide)]
              · rw [d6]; exact h2
            · left
              rw [if_neg (show ¬ I2 7 4 = (41 : Int32) from fun hh => c41 ((nI_eq (by omega) (by decide)).mp (show nI t2 = nI 41 from h24 ▸ hh))), po_b]
              try dsimp only
              rw [if_pos rfl]
              refine ⟨I2, s2, rfl, d2.2.2.2.2.2.2, d2.2.1, by omega, 1 + (c + 1), by omega, Rt_f (Rt_t b1 d3) ?_⟩
              by_cases c59 : t2 = 59
              · have hx2 := d2.2.2.2.2.1
                rw [c59] at hx2
                exact s_end0 hBS d5 hx2 rfl (fun x hxx => d7 x hxx)
              · exact c_stop hBS d5 d2.2.2.2.2.1 d8 c41 c59
    · left
      rw [if_neg (show ¬ nI t = (45 : Int32) from fun hh => c3 (.inl ((nI_eq (by omega) (by decide)).mp (show nI t = nI 45 from hh)))), if_neg (show ¬ nI t = (40 : Int32) from fun hh => c3 (.inr ((nI_eq (by omega) (by decide)).mp (show nI t = nI 40 from hh))))]
      exact ⟨I, s, rfl, hC.2.2.2.2.2.2, hC.2.1, by omega, 1, by omega, s_bad hBS hR hx ⟨c2, fun hh => c1 (.inr hh), fun hh => c3 (.inl hh), fun hh => c3 (.inr hh), h305⟩⟩
