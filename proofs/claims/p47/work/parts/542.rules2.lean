theorem sx_ln {P l : List mh_C} (hP : P.length = 46) : (P ++ l).length = 46 + l.length := by rw [List.length_append, hP]
theorem sx_l {P l l1 : List mh_C} {c : Nat} (hP : P.length = 46) (h : l1.length = l.length + c) : (P ++ l1).length = (P ++ l).length + c := by rw [sx_ln hP, sx_ln hP, h, Nat.add_assoc]
theorem sx_at {P l : List mh_C} (hP : P.length = 46) {k a : Nat} {c : mh_C} (ha : a = 46 + k) (h : l[k]? = some c) : (P ++ l)[a]? = some c := by
  subst ha
  rw [← hP, mh_ga]
  exact h
theorem sx_set {P l : List mh_C} (hP : P.length = 46) {k a : Nat} {c : mh_C} (ha : a = 46 + k) : (P ++ l).set a c = P ++ l.set k c := by
  subst ha
  rw [← hP, mh_gs]
theorem sx_c {P l : List mh_C} {n0 m c r : Nat} (hP : P.length = 46) (hn : n0 = m) (h : 46 + l.length - m + c ≤ r) : (P ++ l).length - n0 + c ≤ r := by rw [sx_ln hP, hn]; exact h
theorem sx_c0 {P l : List mh_C} {n0 m r : Nat} (hP : P.length = 46) (hn : n0 = m) (h : 46 + l.length - m ≤ r) : (P ++ l).length - n0 ≤ r := by rw [sx_ln hP, hn]; exact h
def mh_ct (I : mh_I) (i a1 sp dp n : Nat) : mh_I := fun b => if b = a1 then va_cpy (fun j => (mh_byt.getD i []).getD j 0) (I a1) sp dp n else I b
theorem sb_fitL {l : List Int32} (h : ∀ x ∈ l, fits .byte (.int x) = true) : sb_Fit (fun j => l.getD j 0) := by
  intro j
  show fits .byte (.int (l.getD j 0)) = true
  rw [List.getD_eq_getElem?_getD]
  cases hj : l[j]? with
  | none => rfl
  | some x => exact h x (List.mem_of_getElem? hj)
theorem sb_uf {I : mh_I} {a k : Nat} {x : Int32} (h : sb_Fit (I a)) (hx : fits .byte (.int x) = true) : sb_Fit (mh_u I a k x a) := by
  intro j
  unfold mh_u
  by_cases e : a = a ∧ j = k
  · rw [if_pos e]; exact hx
  · rw [if_neg e]; exact h j
theorem sb_fS2 : sb_Fit (fun j => (mh_byt.getD 2 []).getD j 0) := sb_fitL (by decide +kernel)
theorem sb_fS3 : sb_Fit (fun j => (mh_byt.getD 3 []).getD j 0) := sb_fitL (by decide +kernel)
theorem sb_fS4 : sb_Fit (fun j => (mh_byt.getD 4 []).getD j 0) := sb_fitL (by decide +kernel)
section MX3
variable {own : String} {cc : ByteArray} {nL : Nat} {rt : Option FieldType} {ini : Bool} {R : Room} {n0 mc ms : Nat} {Ex : mh_X} {Φ : mh_P} {slots : Nat} {sh : List mh_C} {I : mh_I} {L : mh_L} {pc : Nat} {lv : List (Nat × Value)} {st : List Value}
theorem mwx_max {index : Nat} {x y : Int32} (hl : Cond.methodLink own index yJ9_max_7cf53 ∈ mh_TB) (hw : Cond.static yJ9_max_7cf53 ∈ mh_TB ∧ Cond.initialized RJ9 ∈ mh_TB ∧ Cond.code yJ9_max_7cf53 cJ9_max_7cf53 2 (some .int) ∈ mh_TB) (hd : decode cc pc = .ok (.invokestatic index, 3)) (h1 : 1 ≤ R.frames) (hrest : (st.map fun v => v.category).sum + 13 ≤ R.locals) (hcs : sh.length - n0 ≤ R.cells ∧ slots ≤ R.slots) (kk : mh_W own cc nL rt ini R n0 mc ms Ex Φ slots sh I L (pc + 3) lv (.int (mh_max x y) :: st)) : mh_W own cc nL rt ini R n0 mc ms Ex Φ slots sh I L pc lv (.int y :: .int x :: st) := by
  intro p l e s m args below meth c D ad A cA H locs ls K S
  exact va_mmax K.x K.b (K.ml.trans S.hlv.1.symm) K.hown (K.tb _ hl) (K.tb _ hw.1) (K.tb _ hw.2.1) (K.tb _ hw.2.2) h1 (by rw [mh_cats]; exact hrest) hcs.1 hcs.2 hd (kk p l e s m args below meth c D ad A cA H locs ls K S)
theorem mwx_min {index : Nat} {x y : Int32} (hl : Cond.methodLink own index yJ9_min_7cf53 ∈ mh_TB) (hw : Cond.static yJ9_min_7cf53 ∈ mh_TB ∧ Cond.initialized RJ9 ∈ mh_TB ∧ Cond.code yJ9_min_7cf53 cJ9_min_7cf53 2 (some .int) ∈ mh_TB) (hd : decode cc pc = .ok (.invokestatic index, 3)) (h1 : 1 ≤ R.frames) (hrest : (st.map fun v => v.category).sum + 13 ≤ R.locals) (hcs : sh.length - n0 ≤ R.cells ∧ slots ≤ R.slots) (kk : mh_W own cc nL rt ini R n0 mc ms Ex Φ slots sh I L (pc + 3) lv (.int (mh_min x y) :: st)) : mh_W own cc nL rt ini R n0 mc ms Ex Φ slots sh I L pc lv (.int y :: .int x :: st) := by
  intro p l e s m args below meth c D ad A cA H locs ls K S
  exact va_mmin K.x K.b (K.ml.trans S.hlv.1.symm) K.hown (K.tb _ hl) (K.tb _ hw.1) (K.tb _ hw.2.1) (K.tb _ hw.2.2) h1 (by rw [mh_cats]; exact hrest) hcs.1 hcs.2 hd (kk p l e s m args below meth c D ad A cA H locs ls K S)
theorem mwx_copyt {i a1 n1' index sp' dp' n' : Nat} {r1 : Nat → Option Nat} {sp dp n : Int32} (hi : i < 5) (hl : Cond.methodLink own index arraycopyName ∈ mh_TB) (hd : decode cc pc = .ok (.invokestatic index, 3)) (hs1 : sh[a1]? = some (.inr (2, n1', r1))) (h1 : ¬ sp < 0) (h2 : ¬ dp < 0) (h3 : ¬ n < 0) (h4 : sp' + n' ≤ mh_len.getD i 0) (h5 : dp' + n' ≤ n1') (e1 : sp.toNatClampNeg = sp') (e2 : dp.toNatClampNeg = dp') (e3 : n.toNatClampNeg = n') (hfit : ∀ k, k < n' → fits .byte (.int ((mh_byt.getD i []).getD (sp' + k) 0)) = true)
    (hw : Cond.native arraycopyName ∈ mh_TB ∧ Cond.static arraycopyName ∈ mh_TB ∧ Cond.initialized "java/lang/System" ∈ mh_TB) (hR : 1 ≤ R.frames ∧ (st.map fun v => v.category).sum + (nativeFrameWords "java/lang/System" "arraycopy" 5 + 11) ≤ R.locals)
    (kk : mh_W own cc nL rt ini R n0 mc ms Ex Φ slots sh (mh_ct I i a1 sp' dp' n') L (pc + 3) lv st) : mh_W own cc nL rt ini R n0 mc ms Ex Φ slots sh I L pc lv (.int n :: .int dp :: .ref a1 :: .int sp :: .ref (1010 + i) :: st) := by
  subst e1; subst e2; subst e3
  exact mw_copyt hi hl hd hs1 h1 h2 h3 h4 h5 hfit hw hR kk
theorem mwx_copy8 {a0 a1 n0' n1' index sp' dp' n' : Nat} {r0 r1 : Nat → Option Nat} {sp dp n : Int32} (hl : Cond.methodLink own index arraycopyName ∈ mh_TB) (hd : decode cc pc = .ok (.invokestatic index, 3)) (hs0 : sh[a0]? = some (.inr (2, n0', r0))) (hs1 : sh[a1]? = some (.inr (2, n1', r1))) (h1 : ¬ sp < 0) (h2 : ¬ dp < 0) (h3 : ¬ n < 0) (h4 : sp' + n' ≤ n0') (h5 : dp' + n' ≤ n1') (e1 : sp.toNatClampNeg = sp') (e2 : dp.toNatClampNeg = dp') (e3 : n.toNatClampNeg = n') (hfit : ∀ i, i < n' → fits .byte (.int (I a0 (sp' + i))) = true)
    (hw : Cond.native arraycopyName ∈ mh_TB ∧ Cond.static arraycopyName ∈ mh_TB ∧ Cond.initialized "java/lang/System" ∈ mh_TB) (hR : 1 ≤ R.frames ∧ (st.map fun v => v.category).sum + (nativeFrameWords "java/lang/System" "arraycopy" 5 + 11) ≤ R.locals)
    (kk : mh_W own cc nL rt ini R n0 mc ms Ex Φ slots sh (mh_cpy I a0 a1 sp' dp' n') L (pc + 3) lv st) : mh_W own cc nL rt ini R n0 mc ms Ex Φ slots sh I L pc lv (.int n :: .int dp :: .ref a1 :: .int sp :: .ref a0 :: st) := by
  subst e1; subst e2; subst e3
  exact mw_copy8 hl hd hs0 hs1 h1 h2 h3 h4 h5 hfit hw hR kk
theorem mwx_bast {a n kx : Nat} {r : Nat → Option Nat} {i x : Int32} (hd : decode cc pc = .ok (.bastore, 1)) (hs : sh[a]? = some (.inr (2, n, r))) (hk : i.toNatClampNeg = kx) (hin : ¬ (i < 0 ∨ n ≤ i.toNatClampNeg)) (kk : mh_W own cc nL rt ini R n0 mc ms Ex Φ slots sh (mh_u I a kx (vp_nar .byte x)) L (pc + 1) lv st) : mh_W own cc nL rt ini R n0 mc ms Ex Φ slots sh I L pc lv (.int x :: .int i :: .ref a :: st) := by
  subst hk
  exact mw_bast8 hd hs hin kk
end MX3
abbrev fs0J0 : List mh_F := [.inr none, .inl 0, .inl 0, .inl 0]
abbrev fs0J4 : List mh_F := [.inr none, .inl 0, .inl 0, .inl 0]
theorem nw_J4_18 : mh_nw RJ4 18 6 fs0J0 := ⟨RJ0, TJ0, 4, tyJ0, rfl, in_J0, tyJ0_ok, wd_621, wd_622, wd_7, rfl, fun j hj => by rcases (show j = 0 ∨ j = 1 ∨ j = 2 ∨ j = 3 by omega) with rfl | rfl | rfl | rfl <;> rfl, by decide⟩
theorem nw_L_49 : mh_nw RL 49 7 fs0J4 := ⟨RJ4, TJ4, 4, tyJ4, rfl, in_J4, tyJ4_ok, wd_462, wd_463, wd_12, rfl, fun j hj => by rcases (show j = 0 ∨ j = 1 ∨ j = 2 ∨ j = 3 by omega) with rfl | rfl | rfl | rfl <;> rfl, by decide⟩
theorem cS_J4_29 : mh_cvS RJ4 29 yJ5_append_cf1ce 1 := ⟨wd_497, wd_726, wd_491, wd_498, wd_11, by decide, by decide +kernel⟩
theorem cS_J4_53 : mh_cvS RJ4 53 yJ5_append_c97b9 1 := ⟨wd_594, wd_733, wd_491, wd_595, wd_11, by decide, by decide +kernel⟩
theorem cS_J4_343 : mh_cvS RJ4 343 yJ5_length_8abf5 0 := ⟨wd_641, wd_637, wd_491, wd_636, wd_11, by decide, by decide +kernel⟩
theorem cU_J0_549 : mh_cvU RJ4 RJ0 549 yJ5_length_8abf5 yJ4_length_8abf5 0 := ⟨wd_635, wd_637, wd_636, wd_638, wd_639, wd_12, ⟨_, _, _, wd_642⟩, by decide, by decide, by decide +kernel⟩
