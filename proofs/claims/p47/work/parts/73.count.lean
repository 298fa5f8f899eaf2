/-! PURE: the JDK's bit counts over sets -/
theorem wb_cu : ∀ k, k < 64 → ((nI k).toInt64.toUInt64 &&& Int64.toUInt64 63) = UInt64.ofNat k := by decide +kernel
theorem wb_tn {n : Nat} (h : n < 2 ^ 64) : (lN n).toBitVec.toNat = n := by rw [wb_tb, BitVec.toNat_ofNat, Nat.mod_eq_of_lt h]
theorem wb_shr {n k : Nat} (hn : n < 2 ^ 64) (hk : k < 64) : ((lN n).toUInt64 >>> ((nI k).toInt64.toUInt64 &&& Int64.toUInt64 63)).toInt64 = lN (n / 2 ^ k) := by
  rw [wb_cu k hk]
  apply wb_inj
  apply BitVec.eq_of_toNat_eq
  show ((lN n).toUInt64 >>> UInt64.ofNat k).toNat = (BitVec.ofNat 64 _).toNat
  have h1 : (UInt64.ofNat k).toNat = k := by
    show (BitVec.ofNat 64 k).toNat = k
    rw [BitVec.toNat_ofNat, Nat.mod_eq_of_lt (by omega)]
  have h2 : (lN n).toUInt64.toNat = n := wb_tn hn
  rw [UInt64.toNat_shiftRight, h1, h2, Nat.mod_eq_of_lt hk, Nat.shiftRight_eq_div_pow, BitVec.toNat_ofNat, Nat.mod_eq_of_lt (Nat.lt_of_le_of_lt (Nat.div_le_self _ _) hn)]
theorem qu_l {n : Nat} (hn : n < 2 ^ 64) (k : Nat) (hk : k < 64) : mh_ushrl (lN n) (nI k) = lN (n / 2 ^ k) := wb_shr hn hk
def qN : List Nat → Nat
  | [] => 0
  | x :: l => x + 16 * qN l
theorem qN_and {a b c d : Nat} (ha : a < 16) (hc : c < 16) : (a + 16 * b) &&& (c + 16 * d) = (a &&& c) + 16 * (b &&& d) := by
  have h1 : ((a + 16 * b) &&& (c + 16 * d)) % 2 ^ 4 = ((a + 16 * b) % 2 ^ 4) &&& ((c + 16 * d) % 2 ^ 4) := Nat.and_mod_two_pow
  have h2 : ((a + 16 * b) &&& (c + 16 * d)) / 2 ^ 4 = ((a + 16 * b) / 2 ^ 4) &&& ((c + 16 * d) / 2 ^ 4) := Nat.and_div_two_pow
  rw [show (a + 16 * b) % 2 ^ 4 = a by omega, show (c + 16 * d) % 2 ^ 4 = c by omega] at h1
  rw [show (a + 16 * b) / 2 ^ 4 = b by omega, show (c + 16 * d) / 2 ^ 4 = d by omega] at h2
  generalize (a + 16 * b) &&& (c + 16 * d) = t at h1 h2
  rw [← h1, ← h2]
  omega
def qf1 (x : Nat) : Nat := x - ((x / 2) &&& 5)
def qf2 (x : Nat) : Nat := (x &&& 3) + ((x / 4) &&& 3)
theorem qf_a : ∀ x, x < 16 → ∀ r, r < 2 → (x / 2 + 8 * r) &&& 5 = (x / 2) &&& 5 := by decide
theorem qf_b : ∀ x, x < 16 → ∀ r, r < 4 → (x / 4 + 4 * r) &&& 3 = (x / 4) &&& 3 := by decide
theorem qf_c : ∀ x, x < 16 → (x / 2) &&& 5 ≤ x ∧ qf1 x < 16 ∧ qf2 (qf1 x) ≤ 4 := by decide
theorem qf_d : ∀ a, a < 2 → ∀ b, b < 2 → ∀ c, c < 2 → ∀ d, d < 2 → qf2 (qf1 (a + 2 * b + 4 * c + 8 * d)) = a + b + c + d := by decide
theorem qN_1 : ∀ (l : List Nat), (∀ x ∈ l, x < 16) → ∀ k, l.length ≤ k → (qN l / 2) &&& qN (List.replicate k 5) ≤ qN l ∧ qN l - ((qN l / 2) &&& qN (List.replicate k 5)) = qN (l.map qf1) := by
  intro l
  induction l with
  | nil => intro _ k _; simp [qN]
  | cons x l ih =>
    intro hl k hk
    have hx := hl x (List.mem_cons_self)
    have hle := qf_c x hx
    match k, hk with
    | k + 1, hk =>
      obtain ⟨i1, i2⟩ := ih (fun y hy => hl y (List.mem_cons_of_mem _ hy)) k (by simpa using hk)
      have e : (qN (x :: l) / 2) &&& qN (List.replicate (k + 1) 5) = ((x / 2) &&& 5) + 16 * ((qN l / 2) &&& qN (List.replicate k 5)) := by
        rw [List.replicate_succ, qN, qN, show (x + 16 * qN l) / 2 = (x / 2 + 8 * (qN l % 2)) + 16 * (qN l / 2) by omega, qN_and (by omega) (by decide), qf_a x hx _ (by omega)]
      rw [e, List.map_cons, qN, qN, ← i2]
      generalize (qN l / 2) &&& qN (List.replicate k 5) = t at *
      unfold qf1
      generalize (x / 2) &&& 5 = u at *
      omega
theorem qN_2 : ∀ (l : List Nat), (∀ x ∈ l, x < 16) → ∀ k, l.length ≤ k → (qN l &&& qN (List.replicate k 3)) + ((qN l / 4) &&& qN (List.replicate k 3)) = qN (l.map qf2) := by
  intro l
  induction l with
  | nil => intro _ k _; simp [qN]
  | cons x l ih =>
    intro hl k hk
    have hx := hl x (List.mem_cons_self)
    match k, hk with
    | k + 1, hk =>
      have i2 := ih (fun y hy => hl y (List.mem_cons_of_mem _ hy)) k (by simpa using hk)
      have e1 : qN (x :: l) &&& qN (List.replicate (k + 1) 3) = (x &&& 3) + 16 * (qN l &&& qN (List.replicate k 3)) := by
        rw [List.replicate_succ, qN, qN, qN_and hx (by decide)]
      have e2 : (qN (x :: l) / 4) &&& qN (List.replicate (k + 1) 3) = ((x / 4) &&& 3) + 16 * ((qN l / 4) &&& qN (List.replicate k 3)) := by
        rw [List.replicate_succ, qN, qN, show (x + 16 * qN l) / 4 = (x / 4 + 4 * (qN l % 4)) + 16 * (qN l / 4) by omega, qN_and (by omega) (by decide), qf_b x hx _ (by omega)]
      rw [e1, e2, List.map_cons, qN, ← i2]
      unfold qf2
      omega
theorem qN_lt : ∀ (l : List Nat), (∀ x ∈ l, x < 16) → qN l < 16 ^ l.length := by
  intro l
  induction l with
  | nil => intro _; decide
  | cons x l ih =>
    intro hl
    have hx := hl x (List.mem_cons_self)
    have := ih (fun y hy => hl y (List.mem_cons_of_mem _ hy))
    rw [qN, List.length_cons, Nat.pow_succ]
    omega
theorem q_15 {x : Nat} (h : x < 16) : x &&& 15 = x := by
  have := Nat.and_two_pow_sub_one_eq_mod x 4
  rw [show (2 ^ 4 - 1 : Nat) = 15 from rfl] at this
  rw [this]
  omega
theorem qN_app : ∀ (l : List Nat) (x : Nat), qN (l ++ [x]) = qN l + 16 ^ l.length * x := by
  intro l x
  induction l with
  | nil => simp [qN]
  | cons y l ih =>
    rw [List.cons_append, qN, ih, qN, List.length_cons, Nat.pow_succ, Nat.mul_add, Nat.mul_comm (16 ^ l.length) 16, Nat.mul_assoc, Nat.add_assoc]
theorem qN_add {x y : Nat} {l m r : List Nat} (h : qN l + qN m = qN r) : qN (x :: l) + qN (y :: m) = qN ((x + y) :: r) := by
  rw [qN, qN, qN, ← h]
  omega
theorem qN_an {x c M : Nat} {l r : List Nat} (hx : x < 16) (hc : c < 16) (h : qN l &&& M = qN r) : qN (x :: l) &&& (c + 16 * M) = qN ((x &&& c) :: r) := by
  rw [qN, qN_and hx hc, h, qN]
theorem qN_3 {a b c d e f g h i j k l : Nat} (ha : a ≤ 4) (hb : b ≤ 4) (hc : c ≤ 4) (hd : d ≤ 4) (he : e ≤ 4) (hf : f ≤ 4) (hg : g ≤ 4) (hh : h ≤ 4) (hi : i ≤ 4) (hj : j ≤ 4) (hk : k ≤ 4) (hl : l ≤ 4) :
    (qN [a, b, c, d, e, f, g, h, i, j, k, l] + qN [a, b, c, d, e, f, g, h, i, j, k, l] / 16) &&& 1085102592571150095 = qN [a + b, 0, c + d, 0, e + f, 0, g + h, 0, i + j, 0, k + l, 0] := by
  have e1 : qN [a, b, c, d, e, f, g, h, i, j, k, l] / 16 = qN [b, c, d, e, f, g, h, i, j, k, l] := by
    rw [qN]
    generalize qN [b, c, d, e, f, g, h, i, j, k, l] = t
    omega
  have e2 : qN [a, b, c, d, e, f, g, h, i, j, k, l] + qN [b, c, d, e, f, g, h, i, j, k, l] = qN [a + b, b + c, c + d, d + e, e + f, f + g, g + h, h + i, i + j, j + k, k + l, l] :=
    qN_add (qN_add (qN_add (qN_add (qN_add (qN_add (qN_add (qN_add (qN_add (qN_add (qN_add (rfl)))))))))))
  have e3 : (1085102592571150095 : Nat) = 15 + 16 * (0 + 16 * (15 + 16 * (0 + 16 * (15 + 16 * (0 + 16 * (15 + 16 * (0 + 16 * (15 + 16 * (0 + 16 * (15 + 16 * (0 + 16 * 3855))))))))))) := by decide
  have e4 := qN_an (show a + b < 16 by omega) (show 15 < 16 by decide) (qN_an (show b + c < 16 by omega) (show 0 < 16 by decide) (qN_an (show c + d < 16 by omega) (show 15 < 16 by decide) (qN_an (show d + e < 16 by omega) (show 0 < 16 by decide) (qN_an (show e + f < 16 by omega) (show 15 < 16 by decide) (qN_an (show f + g < 16 by omega) (show 0 < 16 by decide) (qN_an (show g + h < 16 by omega) (show 15 < 16 by decide) (qN_an (show h + i < 16 by omega) (show 0 < 16 by decide) (qN_an (show i + j < 16 by omega) (show 15 < 16 by decide) (qN_an (show j + k < 16 by omega) (show 0 < 16 by decide) (qN_an (show k + l < 16 by omega) (show 15 < 16 by decide) (qN_an (show l < 16 by omega) (show 0 < 16 by decide) (show qN [] &&& 3855 = qN [] by decide))))))))))))
  rw [e1, e2, e3, e4, q_15 (by omega), q_15 (by omega), q_15 (by omega), q_15 (by omega), q_15 (by omega), q_15 (by omega)]
  simp only [Nat.and_zero]
theorem qN_4 {a c e g i k : Nat} (ha : a ≤ 8) (hc : c ≤ 8) (he : e ≤ 8) (hg : g ≤ 8) (hi : i ≤ 8) (hk : k ≤ 8) {v b4 b5 b6 : Nat} (hv : v = qN [a, 0, c, 0, e, 0, g, 0, i, 0, k, 0]) (h4 : b4 = v + v / 256) (h5 : b5 = b4 + b4 / 65536) (h6 : b6 = b5 + b5 / 4294967296) : b6 % 128 = a + c + e + g + i + k ∧ b6 < 2 ^ 63 := by
  simp only [qN] at hv
  have e4 : v / 256 = c + 256 * (e + 256 * (g + 256 * (i + 256 * k))) := by omega
  have e4' : b4 = (a + c) + 256 * ((c + e) + 256 * ((e + g) + 256 * ((g + i) + 256 * ((i + k) + 256 * k)))) := by omega
  have e5 : b4 / 65536 = (e + g) + 256 * ((g + i) + 256 * ((i + k) + 256 * k)) := by omega
  have e5' : b5 = (a + c + e + g) + 256 * ((c + e + g + i) + 256 * ((e + g + i + k) + 256 * ((g + i + k) + 256 * ((i + k) + 256 * k)))) := by omega
  have e6 : b5 / 4294967296 = (i + k) + 256 * k := by omega
  constructor <;> omega
def qb (p : Nat → Bool) (i : Nat) : Nat := if p i = true then 1 else 0
theorem qb_lt (p : Nat → Bool) (i : Nat) : qb p i < 2 := by unfold qb; split <;> decide
theorem qb_S (p : Nat → Bool) (n : Nat) : pS p (n + 1) = pS p n + 2 ^ n * qb p n := by
  rw [pS, qb]
  split <;> simp
theorem qb_C (p : Nat → Bool) (n : Nat) : qC p (n + 1) = qC p n + qb p n := rfl
def qni (p : Nat → Bool) (k : Nat) : Nat := qb p (4 * k) + 2 * qb p (4 * k + 1) + 4 * qb p (4 * k + 2) + 8 * qb p (4 * k + 3)
theorem qni_lt (p : Nat → Bool) (k : Nat) : qni p k < 16 := by
  have h1 := qb_lt p (4 * k)
  have h2 := qb_lt p (4 * k + 1)
  have h3 := qb_lt p (4 * k + 2)
  have h4 := qb_lt p (4 * k + 3)
  unfold qni
  omega
theorem qni_c (p : Nat → Bool) (k : Nat) : qf2 (qf1 (qni p k)) = qb p (4 * k) + qb p (4 * k + 1) + qb p (4 * k + 2) + qb p (4 * k + 3) := qf_d _ (qb_lt ..) _ (qb_lt ..) _ (qb_lt ..) _ (qb_lt ..)
def qNl (p : Nat → Bool) : List Nat := [qni p 0, qni p 1, qni p 2, qni p 3, qni p 4, qni p 5, qni p 6, qni p 7, qni p 8, qni p 9, qni p 10, qni p 11]
theorem qNl_lt (p : Nat → Bool) : ∀ x ∈ qNl p, x < 16 := by
  intro x hx
  simp only [qNl, List.mem_cons, List.not_mem_nil, or_false] at hx
  rcases hx with rfl | rfl | rfl | rfl | rfl | rfl | rfl | rfl | rfl | rfl | rfl | rfl <;> exact qni_lt p _
theorem pS_nib (p : Nat → Bool) (n : Nat) : pS p (n + 4) = pS p n + 2 ^ n * (qb p n + 2 * qb p (n + 1) + 4 * qb p (n + 2) + 8 * qb p (n + 3)) := by
  rw [qb_S, qb_S, qb_S, qb_S, Nat.pow_add 2 n 1, Nat.pow_add 2 n 2, Nat.pow_add 2 n 3, Nat.mul_add, Nat.mul_add, Nat.mul_add, Nat.mul_assoc, Nat.mul_assoc, Nat.mul_assoc]
  simp only [Nat.add_assoc]
theorem qNr_S (p : Nat → Bool) : ∀ k, qN ((List.range k).map (qni p)) = pS p (4 * k) := by
  intro k
  induction k with
  | zero => rfl
  | succ k ih =>
    rw [List.range_succ, List.map_append, show List.map (qni p) [k] = [qni p k] from rfl, qN_app, ih, show 4 * (k + 1) = 4 * k + 4 from rfl, pS_nib, List.length_map, List.length_range, Nat.pow_mul]
    rfl
theorem qNl_S (p : Nat → Bool) : pS p 48 = qN (qNl p) := (qNr_S p 12).symm
theorem qC4 (p : Nat → Bool) (k : Nat) : qC p (4 * k + 4) = qC p (4 * k) + qf2 (qf1 (qni p k)) := by
  rw [qni_c, qb_C, qb_C, qb_C, qb_C]
  omega
theorem qNl_C (p : Nat → Bool) : qC p 48 = (qf2 (qf1 (qni p 0)) + qf2 (qf1 (qni p 1))) + (qf2 (qf1 (qni p 2)) + qf2 (qf1 (qni p 3))) + (qf2 (qf1 (qni p 4)) + qf2 (qf1 (qni p 5))) + (qf2 (qf1 (qni p 6)) + qf2 (qf1 (qni p 7))) + (qf2 (qf1 (qni p 8)) + qf2 (qf1 (qni p 9))) + (qf2 (qf1 (qni p 10)) + qf2 (qf1 (qni p 11))) := by
  have h : ∀ k, qC p (4 * (k + 1)) = qC p (4 * k) + qf2 (qf1 (qni p k)) := fun k => qC4 p k
  rw [show 48 = 4 * (11 + 1) from rfl, h 11, show 4 * 11 = 4 * (10 + 1) from rfl, h 10, show 4 * 10 = 4 * (9 + 1) from rfl, h 9, show 4 * 9 = 4 * (8 + 1) from rfl, h 8, show 4 * 8 = 4 * (7 + 1) from rfl, h 7, show 4 * 7 = 4 * (6 + 1) from rfl, h 6, show 4 * 6 = 4 * (5 + 1) from rfl, h 5, show 4 * 5 = 4 * (4 + 1) from rfl, h 4, show 4 * 4 = 4 * (3 + 1) from rfl, h 3, show 4 * 3 = 4 * (2 + 1) from rfl, h 2, show 4 * 2 = 4 * (1 + 1) from rfl, h 1, show 4 * 1 = 4 * (0 + 1) from rfl, h 0, show qC p (4 * 0) = 0 from rfl]
  simp only [Nat.add_assoc, Nat.zero_add]
set_option maxHeartbeats 4000000 in
theorem qS_bitCount (p : Nat → Bool) : J13_bitCount_95d88 (qS p) = some (nI (qC p 48)) := by
  have hl : qN (qNl p) < 2 ^ 48 := by rw [← qNl_S]; exact qS_lt p
  have hq := qNl_lt p
  obtain ⟨a1, a2⟩ := qN_1 (qNl p) hq 16 (Nat.le_of_ble_eq_true rfl)
  rw [show qN (List.replicate 16 5) = 6148914691236517205 by decide] at a1 a2
  have hq1 : ∀ x ∈ (qNl p).map qf1, x < 16 := by
    intro x hx
    obtain ⟨y, hy, rfl⟩ := List.mem_map.mp hx
    exact (qf_c y (hq y hy)).2.1
  have a3 := qN_2 ((qNl p).map qf1) hq1 16 (Nat.le_of_ble_eq_true rfl)
  rw [show qN (List.replicate 16 3) = 3689348814741910323 by decide] at a3
  have c0 := (qf_c _ (qni_lt p 0)).2.2
  have c1 := (qf_c _ (qni_lt p 1)).2.2
  have c2 := (qf_c _ (qni_lt p 2)).2.2
  have c3 := (qf_c _ (qni_lt p 3)).2.2
  have c4 := (qf_c _ (qni_lt p 4)).2.2
  have c5 := (qf_c _ (qni_lt p 5)).2.2
  have c6 := (qf_c _ (qni_lt p 6)).2.2
  have c7 := (qf_c _ (qni_lt p 7)).2.2
  have c8 := (qf_c _ (qni_lt p 8)).2.2
  have c9 := (qf_c _ (qni_lt p 9)).2.2
  have c10 := (qf_c _ (qni_lt p 10)).2.2
  have c11 := (qf_c _ (qni_lt p 11)).2.2
  have a4 := qN_3 c0 c1 c2 c3 c4 c5 c6 c7 c8 c9 c10 c11
  have hC := qNl_C p
  have hb2 : qN (((qNl p).map qf1).map qf2) < 2 ^ 48 := by
    have := qN_lt (((qNl p).map qf1).map qf2) (by
      intro x hx
      obtain ⟨y, hy, rfl⟩ := List.mem_map.mp hx
      obtain ⟨z, hz, rfl⟩ := List.mem_map.mp hy
      have := (qf_c z (hq z hz)).2.2
      omega)
    rw [List.length_map, List.length_map, show (qNl p).length = 12 from rfl] at this
    omega
  have e0 : ((qNl p).map qf1).map qf2 = [qf2 (qf1 (qni p 0)), qf2 (qf1 (qni p 1)), qf2 (qf1 (qni p 2)), qf2 (qf1 (qni p 3)), qf2 (qf1 (qni p 4)), qf2 (qf1 (qni p 5)), qf2 (qf1 (qni p 6)), qf2 (qf1 (qni p 7)), qf2 (qf1 (qni p 8)), qf2 (qf1 (qni p 9)), qf2 (qf1 (qni p 10)), qf2 (qf1 (qni p 11))] := rfl
  rw [← e0] at a4
  unfold J13_bitCount_95d88
  simp only [mh_b]
  have E1 : qS p - (mh_ushrl (qS p) (1 : Int32) &&& (6148914691236517205 : Int64)) = lN (qN ((qNl p).map qf1)) := by
    unfold qS
    rw [qNl_S, show (1 : Int32) = nI 1 from rfl, qu_l (by omega) 1 (by decide), show (6148914691236517205 : Int64) = lN 6148914691236517205 from rfl, wb_and (by omega) (by decide), lN_sub (by simpa using a1)]
    congr 1
  have hb1 : qN ((qNl p).map qf1) < 2 ^ 48 := by rw [← a2]; omega
  have E2 : (lN (qN ((qNl p).map qf1)) &&& (3689348814741910323 : Int64)) + (mh_ushrl (lN (qN ((qNl p).map qf1))) (2 : Int32) &&& (3689348814741910323 : Int64)) = lN (qN (((qNl p).map qf1).map qf2)) := by
    rw [show (2 : Int32) = nI 2 from rfl, qu_l (by omega) 2 (by decide), show (3689348814741910323 : Int64) = lN 3689348814741910323 from rfl, wb_and (by omega) (by decide), wb_and (by omega) (by decide), lN_add, ← a3]
  have E3 : (lN (qN (((qNl p).map qf1).map qf2)) + mh_ushrl (lN (qN (((qNl p).map qf1).map qf2))) (4 : Int32)) &&& (1085102592571150095 : Int64) = lN (qN [qf2 (qf1 (qni p 0)) + qf2 (qf1 (qni p 1)), 0, qf2 (qf1 (qni p 2)) + qf2 (qf1 (qni p 3)), 0, qf2 (qf1 (qni p 4)) + qf2 (qf1 (qni p 5)), 0, qf2 (qf1 (qni p 6)) + qf2 (qf1 (qni p 7)), 0, qf2 (qf1 (qni p 8)) + qf2 (qf1 (qni p 9)), 0, qf2 (qf1 (qni p 10)) + qf2 (qf1 (qni p 11)), 0]) := by
    rw [show (4 : Int32) = nI 4 from rfl, qu_l (by omega) 4 (by decide), lN_add, show (1085102592571150095 : Int64) = lN 1085102592571150095 from rfl, wb_and (by omega) (by decide), ← a4]
  rw [E1, E2, E3]
  generalize hv : qN [qf2 (qf1 (qni p 0)) + qf2 (qf1 (qni p 1)), 0, qf2 (qf1 (qni p 2)) + qf2 (qf1 (qni p 3)), 0, qf2 (qf1 (qni p 4)) + qf2 (qf1 (qni p 5)), 0, qf2 (qf1 (qni p 6)) + qf2 (qf1 (qni p 7)), 0, qf2 (qf1 (qni p 8)) + qf2 (qf1 (qni p 9)), 0, qf2 (qf1 (qni p 10)) + qf2 (qf1 (qni p 11)), 0] = v
  obtain ⟨r1, r2⟩ := qN_4 (show _ ≤ 8 by omega) (show _ ≤ 8 by omega) (show _ ≤ 8 by omega) (show _ ≤ 8 by omega) (show _ ≤ 8 by omega) (show _ ≤ 8 by omega) hv.symm rfl rfl rfl
  rw [show (8 : Int32) = nI 8 from rfl, show (16 : Int32) = nI 16 from rfl, show (32 : Int32) = nI 32 from rfl, qu_l (by omega) 8 (by decide), lN_add, qu_l (by omega) 16 (by decide), lN_add, qu_l (by omega) 32 (by decide), lN_add, lN_i]
  have hw : ∀ x : Nat, nI x &&& (127 : Int32) = nI (x % 128) := by
    intro x
    have h1 : nI x = nI (x % 2 ^ 32) := by
      apply Int32.toBitVec_inj.mp
      show BitVec.ofNat 32 x = BitVec.ofNat 32 (x % 2 ^ 32)
      apply BitVec.eq_of_toNat_eq
      rw [BitVec.toNat_ofNat, BitVec.toNat_ofNat, Nat.mod_mod]
    rw [h1, pk_andN (Nat.mod_lt _ (by decide)) 7 (by decide)]
    congr 1
    omega
  rw [hw, hC]
  congr 2
