/-! PURE: numbers: nI with literals, indices, tests, down loops (wb_, pf_shr: from the kit's laws) -/
theorem po_b {α β : Type} (x : α) (f : α → Option β) : (some x).bind f = f x := rfl
theorem pz_10 : ((1 : Int32) = 0) = False := by decide
theorem pz_01 : ((0 : Int32) = 1) = False := by decide
theorem pn_lit (n : Nat) : (OfNat.ofNat n : Int32) = nI n := rfl
theorem pn_ll {n j : Nat} (hn : (OfNat.ofNat n : Nat) < 2 ^ 31) (hj : j < 2 ^ 31) : ((no_index (OfNat.ofNat n : Int32)) ≤ nI j) = ((OfNat.ofNat n : Nat) ≤ j) := propext (nI_leI hn hj)
theorem pn_lr {n j : Nat} (hn : (OfNat.ofNat n : Nat) < 2 ^ 31) (hj : j < 2 ^ 31) : (nI j ≤ (no_index (OfNat.ofNat n : Int32))) = (j ≤ (OfNat.ofNat n : Nat)) := propext (nI_leI hj hn)
theorem pn_tl {n j : Nat} (hn : (OfNat.ofNat n : Nat) < 2 ^ 31) (hj : j < 2 ^ 31) : ((no_index (OfNat.ofNat n : Int32)) < nI j) = ((OfNat.ofNat n : Nat) < j) := propext (nI_ltI hn hj)
theorem pn_tr {n j : Nat} (hn : (OfNat.ofNat n : Nat) < 2 ^ 31) (hj : j < 2 ^ 31) : (nI j < (no_index (OfNat.ofNat n : Int32))) = (j < (OfNat.ofNat n : Nat)) := propext (nI_ltI hj hn)
theorem pn_er {n j : Nat} (hn : (OfNat.ofNat n : Nat) < 2 ^ 31) (hj : j < 2 ^ 31) : (nI j = (no_index (OfNat.ofNat n : Int32))) = (j = (OfNat.ofNat n : Nat)) := propext (nI_eq hj hn)
theorem pn_el {n j : Nat} (hn : (OfNat.ofNat n : Nat) < 2 ^ 31) (hj : j < 2 ^ 31) : ((no_index (OfNat.ofNat n : Int32)) = nI j) = ((OfNat.ofNat n : Nat) = j) := propext (nI_eq hn hj)
theorem pn_le {n j : Nat} (hn : n < 2 ^ 31) (hj : j < 2 ^ 31) : (nI n ≤ nI j) = (n ≤ j) := propext (nI_leI hn hj)
theorem pn_lt {n j : Nat} (hn : n < 2 ^ 31) (hj : j < 2 ^ 31) : (nI n < nI j) = (n < j) := propext (nI_ltI hn hj)
theorem pn_eq {n j : Nat} (hn : n < 2 ^ 31) (hj : j < 2 ^ 31) : (nI n = nI j) = (n = j) := propext (nI_eq hn hj)
theorem pn_al (n j : Nat) : nI j + (no_index (OfNat.ofNat n : Int32)) = nI (j + (OfNat.ofNat n : Nat)) := nI_add j n
theorem pn_ar (n j : Nat) : (no_index (OfNat.ofNat n : Int32)) + nI j = nI ((OfNat.ofNat n : Nat) + j) := nI_add n j
theorem pn_ml (n j : Nat) : nI j * (no_index (OfNat.ofNat n : Int32)) = nI (j * (OfNat.ofNat n : Nat)) := pk_mul j n
theorem pn_mr (n j : Nat) : (no_index (OfNat.ofNat n : Int32)) * nI j = nI ((OfNat.ofNat n : Nat) * j) := pk_mul n j
theorem pn_sl {n j : Nat} (h : (OfNat.ofNat n : Nat) ≤ j) : nI j - (no_index (OfNat.ofNat n : Int32)) = nI (j - (OfNat.ofNat n : Nat)) := pk_sub h
theorem pn_sr {n j : Nat} (h : j ≤ (OfNat.ofNat n : Nat)) : (no_index (OfNat.ofNat n : Int32)) - nI j = nI ((OfNat.ofNat n : Nat) - j) := pk_sub h
theorem pn_dv {n j : Nat} (hj : j < 2 ^ 31) (h0 : 0 < (OfNat.ofNat n : Nat)) (hn : (OfNat.ofNat n : Nat) < 2 ^ 31) : nI j / (no_index (OfNat.ofNat n : Int32)) = nI (j / (OfNat.ofNat n : Nat)) := pk_div hj h0 hn
theorem pn_rm {n j : Nat} (hj : j < 2 ^ 31) (h0 : 0 < (OfNat.ofNat n : Nat)) (hn : (OfNat.ofNat n : Nat) < 2 ^ 31) : mh_rem (nI j) (no_index (OfNat.ofNat n : Int32)) = nI (j % (OfNat.ofNat n : Nat)) := pk_rem hj h0 hn
theorem pn_neg {j : Nat} (h : j < 2 ^ 31) : (nI j = (-1 : Int32)) = False := by
  refine eq_false (fun e => ?_)
  have h2 : (nI j).toInt = -1 := by rw [e]; decide
  rw [nI_toInt h] at h2
  omega
theorem pn_n0 {j : Nat} (h : j < 2 ^ 31) : (nI j < (0 : Int32)) = False := eq_false (nI_pos h)
theorem pn_0n {j : Nat} (h : j < 2 ^ 31) : ((0 : Int32) ≤ nI j) = True := eq_true (nI_pos' h)
theorem px_ix {α : Type} {c n : Nat} (h : c < n) (hn : n < 2 ^ 31) (f : Nat → Option α) : mh_ix (nI c) n f = f c := by
  unfold mh_ix
  rw [if_neg (nI_in h hn), nI_clamp (by omega)]
theorem px_ixl {α : Type} {c n : Nat} (h : (OfNat.ofNat c : Nat) < n) (hn : n < 2 ^ 31) (f : Nat → Option α) : mh_ix (no_index (OfNat.ofNat c : Int32)) n f = f (OfNat.ofNat c : Nat) := px_ix h hn f
def pnb (c : Nat) : Nat := c + 1 - 2 * (c % 2)
theorem pnb_x : ∀ c, c < 64 → c ^^^ 1 = pnb c := by decide
theorem pn_xr {c : Nat} (h : c < 64) : nI c ^^^ (1 : Int32) = nI (pnb c) := by
  rw [← pnb_x c h]
  apply Int32.toBitVec_inj.1
  show BitVec.ofNat 32 c ^^^ BitVec.ofNat 32 1 = BitVec.ofNat 32 (c ^^^ 1)
  exact (BitVec.ofNat_xor ..).symm
/-! a loop that counts down to below 0 -/
def dI : Nat → Int32
  | 0 => -1
  | j + 1 => nI j
theorem dI_p (j : Nat) : nI j + (-1 : Int32) = dI j := by
  cases j with
  | zero => decide
  | succ j => exact pk_m1 j
theorem dI_s (j : Nat) : nI j - (1 : Int32) = dI j := by
  cases j with
  | zero => decide
  | succ j => exact nI_pred j
theorem pl_dn {σ ρ : Type} (F : Nat → Int32 → σ → Option ρ) (Q : Option ρ → Prop) (Inv : Nat → σ → Prop) (hx : ∀ f s, Inv 0 s → Q (F (f + 1) (-1) s)) (hs : ∀ f j s, Inv (j + 1) s → (∃ s', Inv j s' ∧ F (f + 1) (nI j) s = F f (dI j) s') ∨ Q (F (f + 1) (nI j) s)) : ∀ f j s, j < f → Inv j s → Q (F f (dI j) s) := by
  intro f
  induction f with
  | zero => intro j s h; omega
  | succ f ih =>
    intro j s hf hI
    cases j with
    | zero => exact hx f s hI
    | succ j =>
      rcases hs f j s hI with ⟨s', h1, h2⟩ | h1
      · show Q (F (f + 1) (nI j) s)
        rw [h2]
        exact ih j s' (by omega) h1
      · exact h1
/-! arguments: a number in its range, or not -/
theorem pa_rng (v b : Int32) {n : Nat} (hb : b.toInt = n) : (X5_within v 0 b = some 0 ∧ X6_in v 0 b = some 0 ∧ ¬ (0 ≤ v ∧ v ≤ b)) ∨ ∃ c, c ≤ n ∧ v = nI c ∧ X5_within v 0 b = some 1 ∧ X6_in v 0 b = some 1 := by
  by_cases h : 0 ≤ v ∧ v ≤ b
  · obtain ⟨c, h1, h2⟩ := nI_of2 hb (Int32.not_lt.mpr h.1) h.2
    exact .inr ⟨c, h1, h2, by rw [px_within, pI, if_pos h], by rw [pm_in, pI, if_pos h]⟩
  · exact .inl ⟨by rw [px_within, pI, if_neg h], by rw [pm_in, pI, if_neg h], h⟩
theorem pa_loop (v : Int32) : (X5_isLoop v = some 0 ∧ X6_isLoop v = some 0) ∨ ∃ c, c < 48 ∧ v = nI c ∧ X5_isLoop v = some 1 ∧ X6_isLoop v = some 1 := by
  unfold X5_isLoop X6_isLoop
  rcases pa_rng v 47 (n := 47) (by decide) with ⟨h1, h2, -⟩ | ⟨c, h1, h2, h3, h4⟩
  · exact .inl ⟨by rw [h1]; rfl, by rw [h2]; rfl⟩
  · exact .inr ⟨c, by omega, h2, by rw [h3]; rfl, by rw [h4]; rfl⟩
theorem pa_pull (v : Int32) : (X5_isPull v = some 0 ∧ X6_isPull v = some 0) ∨ ∃ c, c < 100 ∧ v = nI c ∧ X5_isPull v = some 1 ∧ X6_isPull v = some 1 := by
  unfold X5_isPull X6_isPull
  rcases pa_rng v 99 (n := 99) (by decide) with ⟨h1, h2, -⟩ | ⟨c, h1, h2, h3, h4⟩
  · exact .inl ⟨by rw [h1]; rfl, by rw [h2]; rfl⟩
  · exact .inr ⟨c, by omega, h2, by rw [h3]; rfl, by rw [h4]; rfl⟩
theorem pa_knit (v w : Int32) : (X5_isKnit v w = some 0 ∧ X6_isKnit v w = some 0) ∨ ∃ k m, k < 6 ∧ m < 10 ∧ v = nI k ∧ w = nI m ∧ X5_isKnit v w = some 1 ∧ X6_isKnit v w = some 1 := by
  unfold X5_isKnit X6_isKnit
  rcases pa_rng v 5 (n := 5) (by decide) with ⟨h1, h2, -⟩ | ⟨k, h1, h2, h3, h4⟩
  · exact .inl ⟨by rw [h1]; rfl, by rw [h2]; rfl⟩
  · rcases pa_rng w 9 (n := 9) (by decide) with ⟨g1, g2, -⟩ | ⟨m, g1, g2, g3, g4⟩
    · exact .inl ⟨by rw [h3, po_b, if_neg (by decide), g1]; rfl, by rw [h4, po_b, if_neg (by decide), g2]; rfl⟩
    · exact .inr ⟨k, m, by omega, by omega, h2, g2, by rw [h3, po_b, if_neg (by decide), g3]; rfl, by rw [h4, po_b, if_neg (by decide), g4]; rfl⟩
/-! reading what was written -/
theorem pu_s (I : mh_I) (a k : Nat) (x : Int32) : mh_u I a k x a k = x := if_pos ⟨rfl, rfl⟩
theorem pu_a {I : mh_I} {a k b j : Nat} {x : Int32} (h : b ≠ a) : mh_u I a k x b j = I b j := if_neg (fun e => h e.1)
theorem pu_k {I : mh_I} {a k b j : Nat} {x : Int32} (h : j ≠ k) : mh_u I a k x b j = I b j := if_neg (fun e => h e.2)
theorem pul_s (L : mh_L) (a k : Nat) (x : Int64) : mh_ul L a k x a k = x := if_pos ⟨rfl, rfl⟩
theorem pul_a {L : mh_L} {a k b j : Nat} {x : Int64} (h : b ≠ a) : mh_ul L a k x b j = L b j := if_neg (fun e => h e.1)
theorem pul_k {L : mh_L} {a k b j : Nat} {x : Int64} (h : j ≠ k) : mh_ul L a k x b j = L b j := if_neg (fun e => h e.2)
/-! from the kit's laws (BITS) -/
theorem wb_tb (n : Nat) : (lN n).toBitVec = BitVec.ofNat 64 n := rfl
theorem wb_inj {a b : Int64} (h : a.toBitVec = b.toBitVec) : a = b := Int64.toBitVec_inj.mp h
theorem wb_c : ∀ k, k < 64 → ((nI k).toInt64 &&& 63) = lN k := by decide +kernel
theorem wb_sm : ∀ k, k < 64 → (BitVec.ofNat 64 k).smod 64 = BitVec.ofNat 64 k := by decide +kernel
theorem wb_lt2 {a b : Nat} (h : a < b) : 2 ^ a < 2 ^ b := Nat.pow_lt_pow_right (by decide) h
theorem wb_shl (n : Nat) {k : Nat} (hk : k < 64) : lN n <<< ((nI k).toInt64 &&& 63) = lN (n * 2 ^ k) := by
  rw [wb_c k hk]
  apply wb_inj
  rw [Int64.toBitVec_shiftLeft, wb_tb, wb_tb, wb_tb, wb_sm k hk]
  apply BitVec.eq_of_toNat_eq
  rw [BitVec.shiftLeft_eq', BitVec.toNat_shiftLeft, BitVec.toNat_ofNat, BitVec.toNat_ofNat, BitVec.toNat_ofNat, Nat.mod_eq_of_lt (show k < 2 ^ 64 by omega), Nat.shiftLeft_eq, Nat.mul_mod, Nat.mod_mod, ← Nat.mul_mod]
theorem wb_and {a b : Nat} (ha : a < 2 ^ 64) (hb : b < 2 ^ 64) : lN a &&& lN b = lN (a &&& b) := by
  apply wb_inj
  rw [Int64.toBitVec_and, wb_tb, wb_tb, wb_tb]
  apply BitVec.eq_of_toNat_eq
  rw [BitVec.toNat_and, BitVec.toNat_ofNat, BitVec.toNat_ofNat, BitVec.toNat_ofNat, Nat.mod_eq_of_lt ha, Nat.mod_eq_of_lt hb, Nat.mod_eq_of_lt (Nat.and_lt_two_pow _ hb)]
theorem wb_or {a b : Nat} (ha : a < 2 ^ 64) (hb : b < 2 ^ 64) : lN a ||| lN b = lN (a ||| b) := by
  apply wb_inj
  rw [Int64.toBitVec_or, wb_tb, wb_tb, wb_tb]
  apply BitVec.eq_of_toNat_eq
  rw [BitVec.toNat_or, BitVec.toNat_ofNat, BitVec.toNat_ofNat, BitVec.toNat_ofNat, Nat.mod_eq_of_lt ha, Nat.mod_eq_of_lt hb, Nat.mod_eq_of_lt (Nat.or_lt_two_pow ha hb)]
theorem wb_a1 {n : Nat} (hn : n < 2 ^ 64) : lN n &&& 1 = lN (n % 2) := by
  rw [show (1 : Int64) = lN 1 from rfl, wb_and hn (by decide), show n &&& 1 = n % 2 from Nat.and_two_pow_sub_one_eq_mod n 1]
theorem pf_lI {a : Nat} (h : a < 2 ^ 63) : (lN a).toInt = (a : Int) := lg_ofNat_toInt h
theorem pf_shr {a d : Nat} {D : Int64} (hD : (D.toBitVec.smod 64).toNat = d) (h : a < 2 ^ 62) : lN a >>> D = lN (a / 2 ^ d) := by
  have hd : a / 2 ^ d ≤ a := Nat.div_le_self _ _
  apply Int64.toInt_inj.mp
  have e : (lN a >>> D).toInt = (lN a).toInt >>> d := by
    rw [← hD]
    exact BitVec.toInt_sshiftRight ..
  rw [e, Int.shiftRight_eq_div_pow, pf_lI (by omega), pf_lI (by omega)]
  rfl
theorem wb_sd : ∀ k, k < 64 → ((lN k).toBitVec.smod 64).toNat = k := by decide +kernel
theorem wb_sr {a k : Nat} (hk : k < 64) (h : a < 2 ^ 62) : lN a >>> ((nI k).toInt64 &&& 63) = lN (a / 2 ^ k) := by
  rw [wb_c k hk]
  exact pf_shr (wb_sd k hk) h
