/-! PURE: one token, the reference -/
theorem lx_sg (x : Nat) (hx : x < 256) {α : Type} (f : Int32 → α) : mh_j (f 1) (fun J17 => if nI x = (40 : Int32) then J17 else if nI x = (41 : Int32) then J17 else if nI x = (59 : Int32) then J17 else if nI x = (43 : Int32) then J17 else if nI x = (45 : Int32) then J17 else if nI x = (42 : Int32) then J17 else if nI x = (60 : Int32) then J17 else if nI x = (61 : Int32) then J17 else (f (0 : Int32))) = f (if x = 40 ∨ x = 41 ∨ x = 42 ∨ x = 43 ∨ x = 45 ∨ x = 59 ∨ x = 60 ∨ x = 61 then 1 else 0) := by
  rw [pj_j]
  have k : ∀ c : Nat, c < 2 ^ 31 → (nI x = nI c) = (x = c) := fun c hc => propext (nI_eq (by omega) hc)
  rw [show (40 : Int32) = nI 40 from rfl, show (41 : Int32) = nI 41 from rfl, show (59 : Int32) = nI 59 from rfl, show (43 : Int32) = nI 43 from rfl, show (45 : Int32) = nI 45 from rfl, show (42 : Int32) = nI 42 from rfl, show (60 : Int32) = nI 60 from rfl, show (61 : Int32) = nI 61 from rfl]
  by_cases h : x = 40 ∨ x = 41 ∨ x = 42 ∨ x = 43 ∨ x = 45 ∨ x = 59 ∨ x = 60 ∨ x = 61
  · rw [if_pos h]
    rcases h with rfl | rfl | rfl | rfl | rfl | rfl | rfl | rfl <;> simp only [k, Nat.reducePow, Nat.reduceLT, Nat.reduceEqDiff, if_true, if_false]
  · rw [if_neg h]
    simp only [k, Nat.reducePow, Nat.reduceLT]
    rw [if_neg (by omega), if_neg (by omega), if_neg (by omega), if_neg (by omega), if_neg (by omega), if_neg (by omega), if_neg (by omega), if_neg (by omega)]
def rtk (t : Nat) : Int32 := if t = 1 then -1 else if t = 2 then 1 else if t < 300 then nI t else if t < 303 then 3 else if t < 306 then nI (t - 299) else 2
theorem wP_t : ∀ u, u < 12 → (u < 3 → wP.getD u 0 = u) ∧ (3 ≤ u → u < 9 → wP.getD u 0 = u + 3) ∧ (9 ≤ u → wP.getD u 0 = u - 6) := by decide +kernel
theorem lx_ref {J : mh_I} {z : Nat} {b : Nat → Nat} {p s e t v : Nat} (hz : z ≤ 160) (hb : ∀ i, i < z → b i < 256) (h1 : J 0 5 = nI z) (h8 : ∀ i, i < z → J 5 i = nI (b i)) (hw : Rwords J) (h17 : J 0 17 = nI p) (h : LX b z p s e t v) : ∃ J', X6_next J = some J' ∧ J' 0 17 = nI e ∧ J' 0 18 = nI s ∧ J' 0 19 = rtk t ∧ (t = 2 → J' 0 20 = nI v) ∧ (300 ≤ t → t < 303 → J' 0 20 = nI (t - 300)) ∧ (306 ≤ t → J' 0 20 = nI (t - 306)) ∧ ∀ a i, ¬ (a = 0 ∧ 17 ≤ i ∧ i ≤ 20) → J' a i = J a i := by
  obtain ⟨F, hF, eF⟩ := fuel_ex
  obtain ⟨hps, hse, hez, hbl, hnb, hc⟩ := h
  unfold X6_next
  rw [eF]
  obtain ⟨J9, g1, g2, g3⟩ := lx_r0 (J := J) (F := F) hz hb h1 h8 h17 hps (by omega) hbl hnb (by omega) (fun (I9 : mh_I) => if ((mh_u (mh_u (mh_u I9 0 18 (I9 0 17)) 0 19 (0 : Int32)) 0 20 (0 : Int32)) 0 17) = ((mh_u (mh_u (mh_u I9 0 18 (I9 0 17)) 0 19 (0 : Int32)) 0 20 (0 : Int32)) 0 5) then some (mh_u (mh_u (mh_u I9 0 18 (I9 0 17)) 0 19 (0 : Int32)) 0 20 (0 : Int32)) else mh_ix ((mh_u (mh_u (mh_u I9 0 18 (I9 0 17)) 0 19 (0 : Int32)) 0 20 (0 : Int32)) 0 17) 160 (fun k10 => mh_b ((mh_u (mh_u (mh_u I9 0 18 (I9 0 17)) 0 19 (0 : Int32)) 0 20 (0 : Int32)) 5 k10) (fun b12 => (X6_in b12 (97 : Int32) (122 : Int32)).bind (fun q13 => if q13 = 0 then (X6_in b12 (48 : Int32) (57 : Int32)).bind (fun q14 => if q14 = 0 then mh_j (fun (s15 : Int32) => mh_j (fun (s26 : Int32) => some (mh_u (mh_u (mh_u (mh_u (mh_u I9 0 18 (I9 0 17)) 0 19 (0 : Int32)) 0 20 (0 : Int32)) 0 19 s26) 0 17 (((mh_u (mh_u (mh_u (mh_u I9 0 18 (I9 0 17)) 0 19 (0 : Int32)) 0 20 (0 : Int32)) 0 19 s26) 0 17) + (1 : Int32)))) (fun J27 => if s15 = 0 then (J27 (-1 : Int32)) else (J27 b12))) (fun J16 => mh_j ((J16 (1 : Int32))) (fun J17 => if b12 = (40 : Int32) then J17 else if b12 = (41 : Int32) then J17 else if b12 = (59 : Int32) then J17 else if b12 = (43 : Int32) then J17 else if b12 = (45 : Int32) then J17 else if b12 = (42 : Int32) then J17 else if b12 = (60 : Int32) then J17 else if b12 = (61 : Int32) then J17 else (J16 (0 : Int32)))) else X6_next_l230 (fun (v40 : Int32) (I41 : mh_I) => mh_j (fun (s42 : Int32) => some (mh_u I41 0 19 s42)) (fun J43 => if v40 ≤ (4 : Int32) then (J43 (1 : Int32)) else (J43 (-1 : Int32)))) F (0 : Int32) (mh_u (mh_u (mh_u I9 0 18 (I9 0 17)) 0 19 (0 : Int32)) 0 20 (0 : Int32))) else X6_next_l103 (fun (I51 : mh_I) => (X6_wordFrom (I51 0 18) (I51 0 17) I51).bind (fun q52 => mh_j (fun (s53 : Int32) => mh_j (fun (s58 : Int32) => some (mh_u (mh_u I51 0 19 s53) 0 20 s58)) (fun J59 => if (3 : Int32) ≤ q52 then (J59 (q52 - (3 : Int32))) else (J59 q52))) (fun J54 => if (3 : Int32) ≤ q52 then if (9 : Int32) ≤ q52 then if q52 = (12 : Int32) then (J54 (-1 : Int32)) else (J54 (((4 : Int32) + q52) - (9 : Int32))) else (J54 (2 : Int32)) else (J54 (3 : Int32))))) F (mh_u (mh_u (mh_u I9 0 18 (I9 0 17)) 0 19 (0 : Int32)) 0 20 (0 : Int32))))))
  rw [g1]
  try dsimp only
  obtain ⟨J1, hJ1⟩ : ∃ J1, J1 = mh_u (mh_u (mh_u J9 0 18 (J9 0 17)) 0 19 (0 : Int32)) 0 20 (0 : Int32) := ⟨_, rfl⟩
  rw [← hJ1]
  have fr1 : ∀ a i, ¬ (a = 0 ∧ 17 ≤ i ∧ i ≤ 20) → J1 a i = J a i := fun a i hai => by
    rw [hJ1, show mh_u (mh_u (mh_u J9 0 18 (J9 0 17)) 0 19 (0 : Int32)) 0 20 (0 : Int32) a i = mh_u (mh_u J9 0 18 (J9 0 17)) 0 19 (0 : Int32) a i from if_neg (by omega), show mh_u (mh_u J9 0 18 (J9 0 17)) 0 19 (0 : Int32) a i = mh_u J9 0 18 (J9 0 17) a i from if_neg (by omega), show mh_u J9 0 18 (J9 0 17) a i = J9 a i from if_neg (by omega)]
    exact g3 a i (by omega)
  have f5 : J1 0 5 = nI z := by rw [fr1 0 5 (by omega), h1]
  have f8 : ∀ i, i < z → J1 5 i = nI (b i) := fun i hi => by rw [fr1 5 i (by omega), h8 i hi]
  have f17 : J1 0 17 = nI s := by rw [hJ1, pu_k (by decide), pu_k (by decide), pu_k (by decide), g2]
  have f18 : J1 0 18 = nI s := by rw [hJ1, pu_k (by decide), pu_k (by decide), pu_s, g2]
  have f19 : J1 0 19 = 0 := by rw [hJ1, pu_k (by decide), pu_s]
  have f20 : J1 0 20 = 0 := by rw [hJ1, pu_s]
  rw [f17, f5]
  rcases hc with ⟨c1, c2, c3, c4⟩ | ⟨c1, c2, c3, c4⟩ | ⟨c1, c2, c3, c4⟩ | ⟨c1, c2, c3, c4⟩
  · rw [if_pos (by rw [c1])]
    refine ⟨J1, rfl, by rw [c2, f17], f18, ?_, fun hh => by omega, fun hh => by omega, fun hh => by omega, fr1⟩
    rw [f19, c3]; rfl
  · have hl := c2 s (Nat.le_refl _) c1
    rw [if_neg (fun hh => by have := (nI_eq (by omega) (by omega)).mp hh; omega), px_ix (show s < 160 by omega) (by decide), pj_b, f8 s (by omega)]
    rcases lx_isl (b s) (hb s (by omega)) with ⟨-, -, g⟩ | ⟨g, -⟩
    · rw [g, po_b, if_neg (by decide)]
      obtain ⟨J2, k1, k2, k3⟩ := lx_r103 (J := J1) (F := F) hz hb f5 f8 f17 hse hez c2 c3 (by omega) (fun (I51 : mh_I) => (X6_wordFrom (I51 0 18) (I51 0 17) I51).bind (fun q52 => mh_j (fun (s53 : Int32) => mh_j (fun (s58 : Int32) => some (mh_u (mh_u I51 0 19 s53) 0 20 s58)) (fun J59 => if (3 : Int32) ≤ q52 then (J59 (q52 - (3 : Int32))) else (J59 q52))) (fun J54 => if (3 : Int32) ≤ q52 then if (9 : Int32) ≤ q52 then if q52 = (12 : Int32) then (J54 (-1 : Int32)) else (J54 (((4 : Int32) + q52) - (9 : Int32))) else (J54 (2 : Int32)) else (J54 (3 : Int32)))))
      rw [k1]
      try dsimp only
      rw [k3 0 18 (by omega), f18, k2]
      have fin : ∀ w y : Int32, w = rtk t → (t = 2 → y = nI v) → (300 ≤ t → t < 303 → y = nI (t - 300)) → (306 ≤ t → y = nI (t - 306)) → ∃ J', some (mh_u (mh_u J2 0 19 w) 0 20 y) = some J' ∧ J' 0 17 = nI e ∧ J' 0 18 = nI s ∧ J' 0 19 = rtk t ∧ (t = 2 → J' 0 20 = nI v) ∧ (300 ≤ t → t < 303 → J' 0 20 = nI (t - 300)) ∧ (306 ≤ t → J' 0 20 = nI (t - 306)) ∧ ∀ a i, ¬ (a = 0 ∧ 17 ≤ i ∧ i ≤ 20) → J' a i = J a i := by
        intro w y y1 y2 y3 y4
        refine ⟨_, rfl, ?_, ?_, ?_, fun hh => ?_, fun h1 h2 => ?_, fun h1 => ?_, fun a i hai => ?_⟩
        · rw [pu_k (by decide), pu_k (by decide), k2]
        · rw [pu_k (by decide), pu_k (by decide), k3 0 18 (by omega), f18]
        · rw [pu_k (by decide), pu_s, y1]
        · rw [pu_s, y2 hh]
        · rw [pu_s, y3 h1 h2]
        · rw [pu_s, y4 h1]
        · rw [show mh_u (mh_u J2 0 19 w) 0 20 y a i = mh_u J2 0 19 w a i from if_neg (by omega), show mh_u J2 0 19 w a i = J2 a i from if_neg (by omega), k3 a i (by omega), fr1 a i hai]
      rcases lx_wf hz hb (J := J2) (fun i hi => by rw [k3 5 i (by omega), f8 i hi]) (fun k hk => by rw [k3 13 k (by omega), fr1 13 k (by omega), hw k hk]) hse hez (fun i h1 h2 => (c2 i h1 h2).1) with ⟨u, u1, u2, u3⟩ | ⟨u1, u2⟩
      · rw [u3, po_b, pj_j]
        obtain ⟨w1, w2, w3⟩ := wP_t u u1
        have ht : t = 300 + wP.getD u 0 := by
          rcases c4 with ⟨k', l1, l2, l3⟩ | ⟨l1, l2⟩
          · rw [l3, ws_un (wP.getD u 0) (ws_r u u1).1 k' l1 (u2.1.symm.trans l2.1) (fun i hi => (u2.2 i (by rw [u2.1]; exact hi)).symm.trans (l2.2 i (by rw [u2.1]; exact hi)))]
          · exact absurd u2 (l1 _ (ws_r u u1).1)
        by_cases a3 : 3 ≤ u
        · have i3 : (3 : Int32) ≤ nI u := (nI_le a3 (by omega) : nI 3 ≤ nI u)
          rw [if_pos i3]
          by_cases a9 : 9 ≤ u
          · have w := w3 a9
            have i9 : (9 : Int32) ≤ nI u := (nI_le a9 (by omega) : nI 9 ≤ nI u)
            rw [if_pos i9, if_neg (show ¬ nI u = (12 : Int32) from fun hh => by have := (nI_eq (by omega) (by decide)).mp (show nI u = nI 12 from hh); omega)]
            dsimp only
            rw [pj_j, if_pos i3, pn_ar, pn_sl (by omega), pn_sl (by omega)]
            refine fin _ _ ?_ (fun hh => by omega) (fun h1 h2 => by omega) (fun h1 => by omega)
            unfold rtk
            rw [if_neg (by omega), if_neg (by omega), if_neg (by omega), if_neg (by omega), if_pos (by omega)]
            exact congrArg nI (by omega)
          · have w := w2 a3 (by omega)
            rw [if_neg (show ¬ (9 : Int32) ≤ nI u from (nI_ge (by omega) (by omega) : ¬ nI 9 ≤ nI u))]
            dsimp only
            rw [pj_j, if_pos i3, pn_sl (by omega)]
            refine fin _ _ ?_ (fun hh => by omega) (fun h1 h2 => by omega) (fun h1 => congrArg nI (by omega))
            unfold rtk
            rw [if_neg (by omega), if_neg (by omega), if_neg (by omega), if_neg (by omega), if_neg (by omega)]
        · have w := w1 (by omega)
          have i3 : ¬ (3 : Int32) ≤ nI u := (nI_ge (by omega) (by omega) : ¬ nI 3 ≤ nI u)
          rw [if_neg i3]
          dsimp only
          rw [pj_j, if_neg i3]
          refine fin _ _ ?_ (fun hh => by omega) (fun h1 h2 => congrArg nI (by omega)) (fun h1 => by omega)
          unfold rtk
          rw [if_neg (by omega), if_neg (by omega), if_neg (by omega), if_pos (by omega)]
      · rw [u2, po_b, pj_j, if_pos (by decide), if_pos (by decide), if_pos rfl]
        dsimp only
        rw [pj_j]
        try rw [if_pos (by decide)]
        have ht : t = 1 := by
          rcases c4 with ⟨k', l1, l2, l3⟩ | ⟨l1, l2⟩
          · exact absurd l2 (u1 k' l1)
          · exact l2
        refine fin _ _ ?_ (fun hh => by omega) (fun h1 h2 => by omega) (fun h1 => by omega)
        rw [ht]; rfl
    · exact absurd hl g
  · have hd := c2 s (Nat.le_refl _) c1
    rw [if_neg (fun hh => by have := (nI_eq (by omega) (by omega)).mp hh; omega), px_ix (show s < 160 by omega) (by decide), pj_b, f8 s (by omega)]
    rcases lx_isl (b s) (hb s (by omega)) with ⟨g, -⟩ | ⟨-, -, g⟩
    · unfold lxl at g
      unfold lxd at hd
      omega
    · rw [g, po_b, if_pos rfl]
      rcases lx_isd (b s) (hb s (by omega)) with ⟨-, -, g⟩ | ⟨g, -⟩
      · rw [g, po_b, if_neg (by decide)]
        obtain ⟨J2, k1, k2, k3, k4⟩ := lx_r230 (J := J1) (F := F) hz hb f5 f8 f17 f20 hse hez c2 c3 (by omega) (fun (v40 : Int32) (I41 : mh_I) => mh_j (fun (s42 : Int32) => some (mh_u I41 0 19 s42)) (fun J43 => if v40 ≤ (4 : Int32) then (J43 (1 : Int32)) else (J43 (-1 : Int32))))
        rw [k1]
        try dsimp only
        rw [pj_j]
        have fin : ∀ w : Int32, w = rtk t → (t = 2 → J2 0 20 = nI v) → t < 3 → ∃ J', some (mh_u J2 0 19 w) = some J' ∧ J' 0 17 = nI e ∧ J' 0 18 = nI s ∧ J' 0 19 = rtk t ∧ (t = 2 → J' 0 20 = nI v) ∧ (300 ≤ t → t < 303 → J' 0 20 = nI (t - 300)) ∧ (306 ≤ t → J' 0 20 = nI (t - 306)) ∧ ∀ a i, ¬ (a = 0 ∧ 17 ≤ i ∧ i ≤ 20) → J' a i = J a i := by
          intro w y1 y2 y3
          refine ⟨_, rfl, ?_, ?_, ?_, fun hh => ?_, fun h1 h2 => by omega, fun h1 => by omega, fun a i hai => ?_⟩
          · rw [pu_k (by decide), k2]
          · rw [pu_k (by decide), k4 0 18 (by omega), f18]
          · rw [pu_s, y1]
          · rw [pu_k (by decide), y2 hh]
          · rw [show mh_u J2 0 19 w a i = J2 a i from if_neg (by omega), k4 a i (by omega), fr1 a i hai]
        rcases c4 with ⟨l1, l2, l3⟩ | ⟨l1, l2⟩
        · rw [if_pos (show nI (e - s) ≤ (4 : Int32) from (nI_le l1 (by decide) : nI (e - s) ≤ nI 4))]
          exact fin _ (by rw [l2]; rfl) (fun _ => by rw [k3 l1, l3]) (by omega)
        · rw [if_neg (show ¬ nI (e - s) ≤ (4 : Int32) from (nI_ge l1 (by omega) : ¬ nI (e - s) ≤ nI 4))]
          exact fin _ (by rw [l2]; rfl) (fun hh => by omega) (by omega)
      · exact absurd hd g
  · rw [if_neg (fun hh => by have := (nI_eq (by omega) (by omega)).mp hh; omega), px_ix (show s < 160 by omega) (by decide), pj_b, f8 s (by omega)]
    rcases lx_isl (b s) (hb s (by omega)) with ⟨g, -⟩ | ⟨-, -, g⟩
    · exact absurd g c2
    · rw [g, po_b, if_pos rfl]
      rcases lx_isd (b s) (hb s (by omega)) with ⟨g, -⟩ | ⟨-, -, g⟩
      · exact absurd g c3
      · rw [g, po_b, if_pos rfl, pj_j]
        have fin : ∀ w : Int32, w = rtk t → t < 62 → t ≠ 2 → ∃ J', some (mh_u (mh_u J1 0 19 w) 0 17 (((mh_u J1 0 19 w) 0 17) + (1 : Int32))) = some J' ∧ J' 0 17 = nI e ∧ J' 0 18 = nI s ∧ J' 0 19 = rtk t ∧ (t = 2 → J' 0 20 = nI v) ∧ (300 ≤ t → t < 303 → J' 0 20 = nI (t - 300)) ∧ (306 ≤ t → J' 0 20 = nI (t - 306)) ∧ ∀ a i, ¬ (a = 0 ∧ 17 ≤ i ∧ i ≤ 20) → J' a i = J a i := by
          intro w y1 y2 y3
          refine ⟨_, rfl, ?_, ?_, ?_, fun hh => absurd hh y3, fun h1 h2 => by omega, fun h1 => by omega, fun a i hai => ?_⟩
          · rw [pu_s, pu_k (by decide), f17, c1]; exact nI_add s 1
          · rw [pu_k (by decide), pu_k (by decide), f18]
          · rw [pu_k (by decide), pu_s, y1]
          · rw [show mh_u (mh_u J1 0 19 w) 0 17 _ a i = mh_u J1 0 19 w a i from if_neg (by omega), show mh_u J1 0 19 w a i = J1 a i from if_neg (by omega), fr1 a i hai]
        have sg := lx_sg (b s) (hb s (by omega)) (fun (s15 : Int32) => mh_j (fun (s26 : Int32) => some (mh_u (mh_u J1 0 19 s26) 0 17 (((mh_u J1 0 19 s26) 0 17) + (1 : Int32)))) (fun J27 => if s15 = 0 then (J27 (-1 : Int32)) else (J27 (nI (b s)))))
        unfold lxs at c4
        rcases c4 with ⟨l1, l2⟩ | ⟨l1, l2⟩
        · obtain ⟨J', q1, q2⟩ := fin (nI (b s)) (by unfold rtk; rw [if_neg (by omega), if_neg (by omega), if_pos (by omega), l2]) (by omega) (by omega)
          refine ⟨J', sg.trans ?_, q2⟩
          rw [if_pos l1]
          try dsimp only
          rw [pj_j, if_neg (by decide)]
          exact q1
        · obtain ⟨J', q1, q2⟩ := fin (-1) (by rw [l2]; rfl) (by omega) (by omega)
          refine ⟨J', sg.trans ?_, q2⟩
          rw [if_neg l1]
          try dsimp only
          rw [pj_j]
          try rw [if_pos rfl]
          exact q1
