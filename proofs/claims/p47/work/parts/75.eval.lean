/-! PURE: what a text says: a program of codes over a stack -/
def clampN (M : Nat) (x : Int32) : Nat := if x < 0 then 0 else if nI M < x then M else x.toNatClampNeg
theorem clampN_le (M : Nat) (x : Int32) (hM : M < 2 ^ 31) : clampN M x ≤ M := by
  unfold clampN
  by_cases h : x < 0
  · rw [if_pos h]; omega
  · rw [if_neg h]
    obtain ⟨j, hj, rfl⟩ := nI_of h
    rw [nI_clamp hj]
    simp only [nI_ltI hM hj]
    split <;> omega
theorem clampN_nI {M j : Nat} (hj : j ≤ M) (hM : M < 2 ^ 31) : clampN M (nI j) = j := by
  unfold clampN
  rw [if_neg (nI_pos (by omega)), if_neg (by rw [nI_ltI hM (by omega)]; omega), nI_clamp (by omega)]
theorem mx0 {j : Nat} (hj : j < 2 ^ 31) : mh_max 0 (nI j) = nI j := by
  unfold mh_max
  by_cases h : (0 : Int32) < nI j
  · rw [if_pos h]
  · rw [if_neg h]
    exact Int32.le_antisymm (nI_pos' hj) (Int32.not_lt.mp h)
theorem clampN_5 (M : Nat) (x : Int32) (hM : M < 2 ^ 31) : X5_bounded x (nI M) = some (nI (clampN M x)) := by
  unfold X5_bounded mh_min clampN
  refine congrArg some ?_
  by_cases h : x < 0
  · rw [if_pos h]
    have h1 : x < nI M := by
      rw [Int32.lt_iff_toInt_lt, nI_toInt hM]
      have := Int32.lt_iff_toInt_lt.mp h
      rw [show (0 : Int32).toInt = 0 by decide] at this
      omega
    rw [if_pos h1]
    unfold mh_max
    rw [if_neg (fun h2 => Int32.lt_irrefl (Int32.lt_trans h h2)), nI_0]
  · rw [if_neg h]
    obtain ⟨j, hj, rfl⟩ := nI_of h
    rw [nI_clamp hj]
    simp only [nI_ltI hM hj, nI_ltI hj hM]
    by_cases h1 : M < j
    · rw [if_pos h1, if_neg (show ¬ j < M by omega), mx0 hM]
    · rw [if_neg h1]
      by_cases h2 : j < M
      · rw [if_pos h2, mx0 hj]
      · rw [if_neg h2, mx0 hM, show M = j by omega]
theorem clampN_6 (M : Nat) (x : Int32) (hM : M < 2 ^ 31) : X6_within x 0 (nI M) = some (nI (clampN M x)) := by
  unfold X6_within clampN
  by_cases h : x < 0
  · rw [if_pos h, if_neg (Int32.not_le.mpr h), nI_0]
  · rw [if_neg h, if_pos (Int32.not_lt.mp h)]
    obtain ⟨j, hj, rfl⟩ := nI_of h
    rw [nI_clamp hj]
    simp only [nI_ltI hM hj, nI_leI hj hM]
    by_cases h1 : M < j
    · rw [if_pos h1, if_neg (by omega)]
    · rw [if_neg h1, if_pos (by omega)]
def nmv (K M : Nat → Nat) (N : Nat → Bool) (c m : Nat) : Nat → Int32 := fun k => if k = 0 then nI (c / 6) else if k = 1 then nI (c % 6) else if k = 2 then nI (M c) else if k = 3 then nI m else if k = 4 then nI (if K c = 1 then 1 else 0) else nI (qb N c)
def oVal (nm : Nat → Int32) (op : Nat) : Int32 := if op < 6 then nm op else nI (op - 100000)
def oU (op : Nat) (x : Int32) : Int32 := if op = 13 then (if x = 0 then 1 else 0) else -x
def oB (op : Nat) (a b : Int32) : Int32 := (X6_two (nI op) a b).getD 0
def co (op : Nat) : Int32 := if op < 6 then -(nI (306 + op)) else if 100000 ≤ op then nI (op - 100000) else if op = 11 then -303 else if op = 12 then -304 else if op = 13 then -305 else if op = 14 then -60 else if op = 15 then -61 else if op = 16 then -43 else if op = 17 then -45 else if op = 18 then -42 else -3
def oOk (op d : Nat) : Prop := ((op < 6 ∨ (100000 ≤ op ∧ op < 110000)) ∧ d < 40) ∨ ((op = 13 ∨ op = 19) ∧ 1 ≤ d) ∨ ((op = 11 ∨ op = 12 ∨ op = 14 ∨ op = 15 ∨ op = 16 ∨ op = 17 ∨ op = 18) ∧ 2 ≤ d)
def oD (op d : Nat) : Nat := if op < 6 ∨ 100000 ≤ op then d + 1 else if op = 13 ∨ op = 19 then d else d - 1
def oS (nm : Nat → Int32) (op d : Nat) (St : Nat → Int32) : Nat → Int32 := fun i => if op < 6 ∨ 100000 ≤ op then (if i = d then oVal nm op else St i) else if op = 13 ∨ op = 19 then (if i = d - 1 then oU op (St (d - 1)) else St i) else (if i = d - 2 then oB op (St (d - 2)) (St (d - 1)) else St i)
def wfn (e : Nat → Nat) : Nat → Nat → Nat → Nat → Prop
  | 0, _, d, d' => d = d'
  | n + 1, j, d, d' => oOk (e j) d ∧ wfn e n (j + 1) (oD (e j) d) d'
def exn (e : Nat → Nat) (nm : Nat → Int32) : Nat → Nat → Nat → (Nat → Int32) → Int32
  | 0, _, _, St => St 0
  | n + 1, j, d, St => exn e nm n (j + 1) (oD (e j) d) (oS nm (e j) d St)
/-! the class's stack -/
def stk (a : Nat) (I : mh_I) (d : Nat) (St : Nat → Int32) : Prop := I a 4 = nI d ∧ d ≤ 40 ∧ ∀ i, i < d → I (a + 3) i = St i
def sfr (a : Nat) (I I' : mh_I) : Prop := ∀ b k, ¬ (b = a + 3 ∨ (b = a ∧ k = 4)) → I' b k = I b k
theorem sfr_r (a : Nat) (I : mh_I) : sfr a I I := fun _ _ _ => rfl
theorem sfr_t {a : Nat} {I I' I'' : mh_I} (h : sfr a I I') (h2 : sfr a I' I'') : sfr a I I'' := fun b k hb => (h2 b k hb).trans (h b k hb)
theorem stk_push {a : Nat} {I : mh_I} {d : Nat} {St : Nat → Int32} (h : stk a I d St) (hd : d < 40) (v : Int32) : ∃ I', X4_push a v I = some I' ∧ stk a I' (d + 1) (fun i => if i = d then v else St i) ∧ sfr a I I' := by
  obtain ⟨h1, h2, h3⟩ := h
  refine ⟨mh_u (mh_u I a 4 (nI (d + 1))) (a + 3) d v, ?_, ⟨?_, by omega, fun i hi => ?_⟩, fun b k hb => ?_⟩
  · unfold X4_push
    rw [h1]
    simp (disch := omega) only [pn_ll, if_neg, px_ix, pn_al]
  · rw [pu_a (by omega), pu_s]
  · by_cases e : i = d
    · subst e; rw [pu_s]; simp
    · rw [pu_k e, pu_a (by omega), h3 i (by omega)]; simp [e]
  · rw [pu_a (fun e => hb (.inl e))]
    by_cases e : b = a
    · rw [pu_k (fun e2 => hb (.inr ⟨e, e2⟩))]
    · rw [pu_a e]
theorem stk_pop {a : Nat} {I : mh_I} {d : Nat} {St : Nat → Int32} (h : stk a I (d + 1) St) : ∃ I', X4_pop a I = some (St d, I') ∧ stk a I' d St ∧ sfr a I I' := by
  obtain ⟨h1, h2, h3⟩ := h
  refine ⟨mh_u I a 4 (nI d), ?_, ⟨?_, by omega, fun i hi => ?_⟩, fun b k hb => ?_⟩
  · unfold X4_pop
    rw [h1]
    simp (disch := omega) only [pn_lr, if_neg, pn_sl, Nat.add_sub_cancel, px_ix]
    rw [pu_a (by omega), h3 d (by omega)]
  · rw [pu_s]
  · rw [pu_a (by omega), h3 i (by omega)]
  · by_cases e : b = a
    · rw [pu_k (fun e2 => hb (.inr ⟨e, e2⟩))]
    · rw [pu_a e]
theorem stk_ext {a : Nat} {I : mh_I} {d : Nat} {St St' : Nat → Int32} (h : stk a I d St) (e : ∀ i, i < d → St i = St' i) : stk a I d St' := ⟨h.1, h.2.1, fun i hi => (h.2.2 i hi).trans (e i hi)⟩
/-! one step of the class -/
theorem pn_ng {v n : Nat} (hv : v < 2 ^ 31) (h0 : 0 < (OfNat.ofNat n : Nat)) (hn : (OfNat.ofNat n : Nat) < 2 ^ 31) : (-nI v = (no_index (OfNat.ofNat n : Int32))) = False := by
  refine eq_false (fun e => ?_)
  have h2 : (-nI v).toInt = (nI n).toInt := congrArg Int32.toInt e
  rw [sb_negT hv, nI_toInt (show n < 2 ^ 31 from hn)] at h2
  have h0' : 0 < n := h0
  omega
theorem xt_num {a p2 v : Nat} {p3 p4 : Int32} {I : mh_I} {L : mh_L} (hv : v < 2 ^ 31) : X4_take a (nI v) p2 p3 p4 I L = (X4_push a (nI v) I) := by
  unfold X4_take
  simp (disch := omega) only [pn_ng, if_false, pn_n0]
  exact Option.bind_fun_some _
theorem xt_nm {a c m : Nat} {I : mh_I} {L : mh_L} {K M : Nat → Nat} {N : Nat → Bool} (hc : c < 48) (h2 : I 2 c = nI (K c)) (hk : K c < 6) (h3 : I 3 c = nI (M c)) (hN : L 1 3 = qS N) : ∀ op, op < 6 → X4_take a (-(nI (306 + op))) 1 (nI c) (nI m) I L = X4_push a (nmv K M N c m op) I := by
  intro op hop
  rcases (show op = 0 ∨ op = 1 ∨ op = 2 ∨ op = 3 ∨ op = 4 ∨ op = 5 by omega) with rfl | rfl | rfl | rfl | rfl | rfl
  · rw [show (-(nI (306 + 0)) : Int32) = -306 from rfl]
    unfold X4_take
    simp (decide := true) (disch := omega) only [if_true, if_false, pn_dv]
    exact Option.bind_fun_some _
  · rw [show (-(nI (306 + 1)) : Int32) = -307 from rfl]
    unfold X4_take
    simp (decide := true) (disch := omega) only [if_true, if_false, pn_rm]
    exact Option.bind_fun_some _
  · rw [show (-(nI (306 + 2)) : Int32) = -308 from rfl]
    unfold X4_take
    simp (decide := true) (disch := omega) only [if_true, if_false, px_ix, h3]
    exact Option.bind_fun_some _
  · rw [show (-(nI (306 + 3)) : Int32) = -309 from rfl]
    unfold X4_take
    simp (decide := true) (disch := omega) only [if_true, if_false]
    exact Option.bind_fun_some _
  · rw [show (-(nI (306 + 4)) : Int32) = -310 from rfl]
    unfold X4_take
    simp (decide := true) (disch := omega) only [if_true, if_false, px_ix, h2, qface_5 _ hk, po_b]
    exact Option.bind_fun_some _
  · rw [show (-(nI (306 + 5)) : Int32) = -311 from rfl]
    unfold X4_take
    simp (decide := true) (disch := omega) only [if_true, if_false, hN, qS_has, po_b, mh_j, qI0]
    unfold nmv qb
    cases N c
    · exact Option.bind_fun_some _
    · exact Option.bind_fun_some _
theorem xt_not {a p2 : Nat} {p3 p4 : Int32} {I : mh_I} {L : mh_L} : X4_take a (-305) p2 p3 p4 I L = (X4_pop a I).bind (fun q => X4_push a (if q.1 = 0 then 1 else 0) q.2) := by
  unfold X4_take
  simp (decide := true) only [if_true, if_false, mh_j]
  congr 1
  funext q
  by_cases h : q.1 = 0
  · rw [if_pos h, if_pos h]; exact Option.bind_fun_some _
  · rw [if_neg h, if_neg h]; exact Option.bind_fun_some _
theorem xt_neg {a p2 : Nat} {p3 p4 : Int32} {I : mh_I} {L : mh_L} : X4_take a (-3) p2 p3 p4 I L = (X4_pop a I).bind (fun q => X4_push a (-q.1) q.2) := by
  unfold X4_take
  simp (decide := true) only [if_true]
  congr 1
  funext q
  exact Option.bind_fun_some _
def obin (op : Nat) : Prop := op = 11 ∨ op = 12 ∨ op = 14 ∨ op = 15 ∨ op = 16 ∨ op = 17 ∨ op = 18
theorem xt_two {op : Nat} (h : obin op) (a b : Int32) : X6_two (nI op) a b = some (oB op a b) := by
  unfold oB
  have : ∀ x y : Int32, ∃ r, X6_two (nI op) x y = some r := by
    intro x y
    unfold X6_two
    rcases h with rfl | rfl | rfl | rfl | rfl | rfl | rfl <;> simp (decide := true) only [if_true, if_false] <;> (repeat' split) <;> exact ⟨_, rfl⟩
  obtain ⟨r, hr⟩ := this a b
  rw [hr]; rfl
theorem xt_join {op : Nat} (h : obin op) (a b : Int32) : X4_joined (-(co op)) a b = some (oB op a b) := by
  rw [← xt_two h]
  unfold X4_joined X6_two
  rcases h with rfl | rfl | rfl | rfl | rfl | rfl | rfl <;> simp (decide := true) only [if_true, if_false]
theorem xt_bin {op : Nat} (h : obin op) {a p2 : Nat} {p3 p4 : Int32} {I : mh_I} {L : mh_L} : X4_take a (co op) p2 p3 p4 I L = (X4_pop a I).bind (fun q => (X4_pop a q.2).bind (fun r => X4_push a (oB op r.1 q.1) r.2)) := by
  have hj := xt_join h
  unfold X4_take
  rcases h with rfl | rfl | rfl | rfl | rfl | rfl | rfl <;> simp (decide := true) only [if_true, if_false, mh_b] <;> congr 1 <;> funext q <;> congr 1 <;> funext r <;> rw [hj, po_b] <;> exact Option.bind_fun_some _
theorem cx_take {a c m : Nat} {I : mh_I} {L : mh_L} {K M : Nat → Nat} {N : Nat → Bool} (hc : c < 48) (h2 : I 2 c = nI (K c)) (hk : K c < 6) (h3 : I 3 c = nI (M c)) (hN : L 1 3 = qS N) {op d : Nat} {St : Nat → Int32} (hok : oOk op d) (hs : stk a I d St) : ∃ I', X4_take a (co op) 1 (nI c) (nI m) I L = some I' ∧ stk a I' (oD op d) (oS (nmv K M N c m) op d St) ∧ sfr a I I' := by
  rcases hok with ⟨h, hd⟩ | ⟨h, hd⟩ | ⟨h, hd⟩
  · have hl : op < 6 ∨ 100000 ≤ op := by omega
    obtain ⟨I', g1, g2, g3⟩ := stk_push hs hd (oVal (nmv K M N c m) op)
    refine ⟨I', ?_, ?_, g3⟩
    · rw [← g1]
      unfold co oVal
      by_cases h6 : op < 6
      · rw [if_pos h6, if_pos h6]; exact xt_nm hc h2 hk h3 hN op h6
      · rw [if_neg h6, if_pos (by omega), if_neg h6]; exact xt_num (by omega)
    · rw [oD, if_pos hl]
      exact stk_ext g2 (fun i hi => by rw [oS, if_pos hl])
  · have hl : ¬ (op < 6 ∨ 100000 ≤ op) := by omega
    obtain ⟨d, rfl⟩ : ∃ d', d = d' + 1 := ⟨d - 1, by omega⟩
    obtain ⟨I1, g1, g2, g3⟩ := stk_pop hs
    obtain ⟨I2, k1, k2, k3⟩ := stk_push g2 (by have := hs.2.1; omega) (oU op (St d))
    refine ⟨I2, ?_, ?_, sfr_t g3 k3⟩
    · rw [← k1]
      rcases h with rfl | rfl
      · exact (xt_not).trans (by rw [g1, po_b]; rfl)
      · exact (xt_neg).trans (by rw [g1, po_b]; rfl)
    · rw [oD, if_neg hl, if_pos h]
      exact stk_ext k2 (fun i hi => by rw [oS, if_neg hl, if_pos h, Nat.add_sub_cancel])
  · have hl : ¬ (op < 6 ∨ 100000 ≤ op) := by omega
    have hu : ¬ (op = 13 ∨ op = 19) := by omega
    obtain ⟨d, rfl⟩ : ∃ d', d = d' + 2 := ⟨d - 2, by omega⟩
    obtain ⟨I1, g1, g2, g3⟩ := stk_pop (d := d + 1) hs
    obtain ⟨I2, k1, k2, k3⟩ := stk_pop g2
    obtain ⟨I3, l1, l2, l3⟩ := stk_push k2 (by have := hs.2.1; omega) (oB op (St d) (St (d + 1)))
    refine ⟨I3, ?_, ?_, sfr_t (sfr_t g3 k3) l3⟩
    · rw [xt_bin h, g1, po_b, k1, po_b, l1]
    · rw [oD, if_neg hl, if_neg hu]
      exact stk_ext l2 (fun i hi => by rw [oS, if_neg hl, if_neg hu]; rfl)
