/-! PURE: the two texts, read -/
def oF : List Nat := [0, 7, 10, 13]
def eF : List Nat := [100010, 2, 16, 4, 100003, 18, 17, 100002, 2, 16, 100001, 4, 16]
theorem f_eo : (X6_text jF).map (fun r => ((List.range 4).map (fun q => r.2 7 (4 * 0 + q)), (List.range 13).map (fun j => r.2 6 (200 * 0 + j)))) = some (oF.map nI, eF.map nI) := by decide +kernel
def lT : List Nat := [114, 117, 98, 32, 112, 117, 108, 108, 42, 48, 43, 114, 111, 119, 45, 109, 111, 114, 101, 59, 109, 105, 110, 117, 116, 101, 115, 32, 112, 117, 108, 108, 43, 109, 101, 110, 100, 101, 100, 59, 115, 101, 101, 110, 32, 112, 108, 97, 99, 101, 42, 114, 111, 119, 45, 102, 97, 99, 101, 42, 48, 59]
def tB (d1 d2 i : Nat) : Nat := if i = 9 then 48 + d1 else if i = 60 then 48 + d2 else lT.getD i 0
def jT (d1 d2 : Nat) : mh_I := fun a i => if a = 0 then (if i = 5 then 62 else if i = 8 then 1 else 0) else if a = 5 then nI (tB d1 d2 i) else if a = 13 then wT.getD i 0 else 0
def oT : List Nat := [0, 7, 10, 17]
def eT (d1 d2 : Nat) : List Nat := [3, 100000 + d1, 18, 0, 16, 2, 17, 3, 5, 16, 1, 0, 18, 4, 100000 + d2, 18, 17]
def tEO (d1 d2 : Nat) : Option (Int32 × List Int32 × List Int32) := (X6_text (jT d1 d2)).map (fun r => (r.1, (List.range 4).map (fun q => r.2 7 (4 * 1 + q)), (List.range 17).map (fun j => r.2 6 (200 * 1 + j))))
def tEB (d1 d2 : Nat) : Bool := tEO d1 d2 == some (1, oT.map nI, (eT d1 d2).map nI)
theorem t_eb : ∀ d1, d1 < 2 → ∀ d2, d2 < 8 → tEB d1 d2 = true := by decide +kernel
theorem t_eo {d1 d2 : Nat} (h1 : d1 < 2) (h2 : d2 < 8) : tEO d1 d2 = some (1, oT.map nI, (eT d1 d2).map nI) := eq_of_beq (t_eb d1 h1 d2 h2)
theorem wfn_lt {e : Nat → Nat} : ∀ n j d d', wfn e n j d d' → ∀ i, j ≤ i → i < j + n → e i < 110000 := by
  intro n
  induction n with
  | zero => intro j d d' _ i h1 h2; omega
  | succ n ih =>
    intro j d d' h i h1 h2
    by_cases ei : i = j
    · subst ei
      have := h.1
      unfold oOk at this
      omega
    · exact ih (j + 1) _ _ h.2 i (by omega) (by omega)
theorem tok_lt {e o : Nat → Nat} (h : tok e o) {j : Nat} (hj : j < o 3) : e j < 110000 := by
  obtain ⟨h0, h1, h2, h3, h4, h5⟩ := h
  by_cases c1 : j < o 1
  · exact wfn_lt _ _ _ _ (h5 0 (by decide)) j (by omega) (by show j < o 0 + (o 1 - o 0); omega)
  · by_cases c2 : j < o 2
    · exact wfn_lt _ _ _ _ (h5 1 (by decide)) j (by omega) (by show j < o 1 + (o 2 - o 1); omega)
    · exact wfn_lt _ _ _ _ (h5 2 (by decide)) j (by omega) (by show j < o 2 + (o 3 - o 2); omega)
theorem gd_lt {l : List Nat} {n : Nat} (h0 : 0 < n) (h : ∀ x ∈ l, x < n) (j : Nat) : l.getD j 0 < n := by
  rw [List.getD_eq_getElem?_getD]
  cases e : l[j]? with
  | none => exact h0
  | some x => exact h x (List.mem_of_getElem? e)
theorem eo_of {u n : Nat} {J : mh_I} {e o : Nat → Nat} {O E : List Nat} (hT : tok e o) (hE : renc u J e o) (hO : ∀ q, q < 4 → J 7 (4 * u + q) = nI (O.getD q 0)) (hOl : ∀ x ∈ O, x < 1000) (hn : O.getD 3 0 = n) (hJ : ∀ j, j < n → J 6 (200 * u + j) = nI (E.getD j 0)) (hEl : ∀ x ∈ E, x < 200000) : (∀ q, q < 4 → o q = O.getD q 0) ∧ ∀ j, j < n → e j = E.getD j 0 := by
  have ho : ∀ q, q < 4 → o q = O.getD q 0 := fun q hq => by
    have hl : o q ≤ 160 := by
      obtain ⟨h0, h1, h2, h3, h4, h5⟩ := hT
      rcases (show q = 0 ∨ q = 1 ∨ q = 2 ∨ q = 3 by omega) with rfl | rfl | rfl | rfl <;> omega
    have hl2 := gd_lt (n := 1000) (by decide) hOl q
    exact (nI_eq (by omega) (by omega)).mp ((hE.2 q hq).symm.trans (hO q hq))
  refine ⟨ho, fun j hj => ?_⟩
  have h3 := ho 3 (by decide)
  rw [hn] at h3
  have hl := tok_lt hT (j := j) (by omega)
  have hl2 := gd_lt (n := 200000) (by decide) hEl j
  exact (nI_eq (by omega) (by omega)).mp ((hE.1 j (by omega)).symm.trans (hJ j hj))
theorem oB_16 (a b : Int32) : oB 16 a b = a + b := by unfold oB X6_two; rfl
theorem oB_17 (a b : Int32) : oB 17 a b = a - b := by unfold oB X6_two; rfl
theorem oB_18 (a b : Int32) : oB 18 a b = a * b := by unfold oB X6_two; rfl
section EX
variable {e : Nat → Nat} {nm : Nat → Int32} {n j d : Nat} {St : Nat → Int32}
theorem ex_n {v : Nat} (h : e j = 100000 + v) : exn e nm (n + 1) j d St = exn e nm n (j + 1) (d + 1) (fun i => if i = d then nI v else St i) := by
  rw [exn]
  have e1 : oD (e j) d = d + 1 := by unfold oD; rw [h, if_pos (.inr (by omega))]
  have e2 : oS nm (e j) d St = fun i => if i = d then nI v else St i := by
    funext i
    unfold oS
    rw [h, if_pos (.inr (by omega))]
    unfold oVal
    by_cases hi : i = d
    · rw [if_pos hi, if_pos hi, if_neg (by omega), Nat.add_sub_cancel_left]
    · rw [if_neg hi, if_neg hi]
  rw [e1, e2]
theorem ex_v {k : Nat} (hk : k < 6) (h : e j = k) : exn e nm (n + 1) j d St = exn e nm n (j + 1) (d + 1) (fun i => if i = d then nm k else St i) := by
  rw [exn]
  have e1 : oD (e j) d = d + 1 := by unfold oD; rw [h, if_pos (.inl hk)]
  have e2 : oS nm (e j) d St = fun i => if i = d then nm k else St i := by
    funext i
    unfold oS
    rw [h, if_pos (.inl hk)]
    unfold oVal
    rw [if_pos hk]
  rw [e1, e2]
theorem ex_b {op : Nat} (hop : op = 16 ∨ op = 17 ∨ op = 18) (h : e j = op) : exn e nm (n + 1) j (d + 2) St = exn e nm n (j + 1) (d + 1) (fun i => if i = d then oB op (St d) (St (d + 1)) else St i) := by
  rw [exn]
  have e1 : oD (e j) (d + 2) = d + 1 := by unfold oD; rw [h, if_neg (by omega), if_neg (by omega)]; omega
  have e2 : oS nm (e j) (d + 2) St = fun i => if i = d then oB op (St d) (St (d + 1)) else St i := by
    funext i
    unfold oS
    rw [h, if_neg (by omega), if_neg (by omega)]
    rfl
  rw [e1, e2]
end EX
section EY
variable {e : Nat → Nat} {nm : Nat → Int32} {St : Nat → Int32}
theorem ex_f0 (h : ∀ j, j < 13 → e j = eF.getD j 0) : exn e nm 7 0 0 St = (nI 10 + nm 2) - (nm 4 * nI 3) := by
  rw [ex_n (v := 10) (h 0 (by decide)), ex_v (k := 2) (by decide) (h 1 (by decide)), ex_b (op := 16) (by decide) (h 2 (by decide)), ex_v (k := 4) (by decide) (h 3 (by decide)), ex_n (v := 3) (h 4 (by decide)), ex_b (op := 18) (by decide) (h 5 (by decide)), ex_b (op := 17) (by decide) (h 6 (by decide)), exn]
  simp only [oB_16, oB_17, oB_18]
  rfl
theorem ex_f1 (h : ∀ j, j < 13 → e j = eF.getD j 0) : exn e nm 3 7 0 St = nI 2 + nm 2 := by
  rw [ex_n (v := 2) (h 7 (by decide)), ex_v (k := 2) (by decide) (h 8 (by decide)), ex_b (op := 16) (by decide) (h 9 (by decide)), exn]
  simp only [oB_16]
  rfl
theorem ex_f2 (h : ∀ j, j < 13 → e j = eF.getD j 0) : exn e nm 3 10 0 St = nI 1 + nm 4 := by
  rw [ex_n (v := 1) (h 10 (by decide)), ex_v (k := 4) (by decide) (h 11 (by decide)), ex_b (op := 16) (by decide) (h 12 (by decide)), exn]
  simp only [oB_16]
  rfl
variable {d1 d2 : Nat}
theorem ex_t0 (h : ∀ j, j < 17 → e j = (eT d1 d2).getD j 0) : exn e nm 7 0 0 St = ((nm 3 * nI d1) + nm 0) - nm 2 := by
  rw [ex_v (k := 3) (by decide) (h 0 (by decide)), ex_n (v := d1) (h 1 (by decide)), ex_b (op := 18) (by decide) (h 2 (by decide)), ex_v (k := 0) (by decide) (h 3 (by decide)), ex_b (op := 16) (by decide) (h 4 (by decide)), ex_v (k := 2) (by decide) (h 5 (by decide)), ex_b (op := 17) (by decide) (h 6 (by decide)), exn]
  simp only [oB_16, oB_17, oB_18]
  rfl
theorem ex_t1 (h : ∀ j, j < 17 → e j = (eT d1 d2).getD j 0) : exn e nm 3 7 0 St = nm 3 + nm 5 := by
  rw [ex_v (k := 3) (by decide) (h 7 (by decide)), ex_v (k := 5) (by decide) (h 8 (by decide)), ex_b (op := 16) (by decide) (h 9 (by decide)), exn]
  simp only [oB_16]
  rfl
theorem ex_t2 (h : ∀ j, j < 17 → e j = (eT d1 d2).getD j 0) : exn e nm 7 10 0 St = (nm 1 * nm 0) - (nm 4 * nI d2) := by
  rw [ex_v (k := 1) (by decide) (h 10 (by decide)), ex_v (k := 0) (by decide) (h 11 (by decide)), ex_b (op := 18) (by decide) (h 12 (by decide)), ex_v (k := 4) (by decide) (h 13 (by decide)), ex_n (v := d2) (h 14 (by decide)), ex_b (op := 18) (by decide) (h 15 (by decide)), ex_b (op := 17) (by decide) (h 16 (by decide)), exn]
  simp only [oB_16, oB_17, oB_18]
  rfl
end EY
