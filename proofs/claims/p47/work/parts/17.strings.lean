/-! the String constants, and the JDK's methods that read them -/
section MH8
variable {own : String} {cc : ByteArray} {nL : Nat} {rt : Option FieldType} {ini : Bool} {R : Room} {n0 mc ms : Nat} {Ex : mh_X} {Φ : mh_P} {slots : Nat} {sh : List mh_C} {I : mh_I} {L : mh_L} {pc : Nat} {lv : List (Nat × Value)} {st : List Value}
theorem mw_ldcS {index i : Nat} (hq : (own, index, i) ∈ mh_ldc) (hd : decode cc pc = .ok (.ldc index, 2)) (kk : mh_W own cc nL rt ini R n0 mc ms Ex Φ slots sh I L (pc + 2) lv (.ref (1000 + i) :: st)) : mh_W own cc nL rt ini R n0 mc ms Ex Φ slots sh I L pc lv st := by
  intro p l e s m args below meth c D ad A cA H locs ls K S
  exact va_ldcS K.x K.b K.hown (K.e.2.1 _ hq) hd (kk p l e s m args below meth c D ad A cA H locs ls K S)
theorem mw_ldcA (ho : own = RX5) (hd : decode cc pc = .ok (.ldc 51, 2)) (kk : mh_W own cc nL rt ini R n0 mc ms Ex Φ slots sh I L (pc + 2) lv (.ref 1000 :: st)) : mh_W own cc nL rt ini R n0 mc ms Ex Φ slots sh I L pc lv st := by
  subst ho
  exact mw_ldcS (i := 0) (by simp [mh_ldc]) hd kk
theorem mw_ldcB (ho : own = RX3) (hd : decode cc pc = .ok (.ldc 84, 2)) (kk : mh_W own cc nL rt ini R n0 mc ms Ex Φ slots sh I L (pc + 2) lv (.ref 1001 :: st)) : mh_W own cc nL rt ini R n0 mc ms Ex Φ slots sh I L pc lv st := by
  subst ho
  exact mw_ldcS (i := 1) (by simp [mh_ldc]) hd kk
theorem mw_dig {index : Nat} (hl : Cond.fieldLink own index "java/lang/Integer" "DigitOnes" "[B" ∈ mh_TB) (hd : decode cc pc = .ok (.getstatic index, 3)) (kk : mh_W own cc nL rt ini R n0 mc ms Ex Φ slots sh I L (pc + 3) lv (.ref 1030 :: st)) : mh_W own cc nL rt ini R n0 mc ms Ex Φ slots sh I L pc lv st := by
  intro p l e s m args below meth c D ad A cA H locs ls K S
  exact va_gets K.x K.b K.e.2.2.2.2.2.2.2.1 S.S K.hown (K.tb _ hl) (fun _ h => h) hd (kk p l e s m args below meth c D ad A cA H locs ls K S)
theorem mw_digld {j : Int32} (hin : ¬ (j < 0 ∨ 100 ≤ j.toNatClampNeg)) (hd : decode cc pc = .ok (.baload, 1)) (kk : mh_W own cc nL rt ini R n0 mc ms Ex Φ slots sh I L (pc + 1) lv (.int (nI (48 + j.toNatClampNeg % 10)) :: st)) : mh_W own cc nL rt ini R n0 mc ms Ex Φ slots sh I L pc lv (.int j :: .ref 1030 :: st) := by
  intro p l e s m args below meth c D ad A cA H locs ls K S
  exact va_tb K.x K.b K.e.2.2.2.2.2.2.2.2 S.S hin rfl hd (kk p l e s m args below meth c D ad A cA H locs ls K S)
/-- arraycopy out of a constant String's bytes -/
theorem mw_copyt {i a1 n1' index : Nat} {r1 : Nat → Option Nat} {sp dp n : Int32} (hi : i < 5) (hl : Cond.methodLink own index arraycopyName ∈ mh_TB) (hd : decode cc pc = .ok (.invokestatic index, 3)) (hs1 : sh[a1]? = some (.inr (2, n1', r1))) (h1 : ¬ sp < 0) (h2 : ¬ dp < 0) (h3 : ¬ n < 0) (h4 : sp.toNatClampNeg + n.toNatClampNeg ≤ mh_len.getD i 0) (h5 : dp.toNatClampNeg + n.toNatClampNeg ≤ n1') (hfit : ∀ k, k < n.toNatClampNeg → fits .byte (.int ((mh_byt.getD i []).getD (sp.toNatClampNeg + k) 0)) = true)
    (hw : Cond.native arraycopyName ∈ mh_TB ∧ Cond.static arraycopyName ∈ mh_TB ∧ Cond.initialized "java/lang/System" ∈ mh_TB) (hR : 1 ≤ R.frames ∧ (st.map fun v => v.category).sum + (nativeFrameWords "java/lang/System" "arraycopy" 5 + 11) ≤ R.locals)
    (kk : mh_W own cc nL rt ini R n0 mc ms Ex Φ slots sh (fun b => if b = a1 then va_cpy (fun j => (mh_byt.getD i []).getD j 0) (I a1) sp.toNatClampNeg dp.toNatClampNeg n.toNatClampNeg else I b) L (pc + 3) lv st) : mh_W own cc nL rt ini R n0 mc ms Ex Φ slots sh I L pc lv (.int n :: .int dp :: .ref a1 :: .int sp :: .ref (1010 + i) :: st) := by
  intro p l e s m args below meth c D ad A cA H locs ls K S
  refine vk_copyt K.x K.b (K.ml.trans S.hlv.1.symm) K.hown (K.tb _ hl) (K.tb _ hw.1) (K.tb _ hw.2.1) (K.tb _ hw.2.2) (S.KA hs1) S.P S.hD S.S ((K.e.2.2.1).1 i hi).2.2.2 a1 0 (mh_ws_at hs1) rfl h1 h2 h3 h4 h5 hfit hR.1 (by rw [mh_cats]; exact hR.2) hd (fun H1 locs1 hP hD hS => ?_)
  exact kk p l e s m args below meth c D ad A cA H1 locs1 ls K (mh_arr_step hs1 (mh_set_same hs1).symm S (by rw [mh_cell]; simp) (fun b hb => by simp [hb]) (fun _ _ => rfl) hP hD hS)
theorem mw_strv {index i : Nat} (hi : i < 5) (hl : Cond.fieldLink own index "java/lang/String" "value" "[B" ∈ mh_TB) (hd : decode cc pc = .ok (.getfield index, 3)) (kk : mh_W own cc nL rt ini R n0 mc ms Ex Φ slots sh I L (pc + 3) lv (.ref (1010 + i) :: st)) : mh_W own cc nL rt ini R n0 mc ms Ex Φ slots sh I L pc lv (.ref (1000 + i) :: st) := by
  intro p l e s m args below meth c D ad A cA H locs ls K S
  exact vk_getf K.x K.b ((K.e.2.2.1).1 i hi).2.2.1 S.S K.hown (K.tb _ hl) (fun _ h => h) hd (kk p l e s m args below meth c D ad A cA H locs ls K S)
theorem mw_strc {index i : Nat} (hi : i < 5) (hl : Cond.fieldLink own index "java/lang/String" "coder" "B" ∈ mh_TB) (hd : decode cc pc = .ok (.getfield index, 3)) (kk : mh_W own cc nL rt ini R n0 mc ms Ex Φ slots sh I L (pc + 3) lv (.int 0 :: st)) : mh_W own cc nL rt ini R n0 mc ms Ex Φ slots sh I L pc lv (.ref (1000 + i) :: st) := by
  intro p l e s m args below meth c D ad A cA H locs ls K S
  exact vk_getf K.x K.b ((K.e.2.2.1).1 i hi).2.1 S.S K.hown (K.tb _ hl) (fun _ h => h) hd (kk p l e s m args below meth c D ad A cA H locs ls K S)
theorem mw_getsC {index : Nat} (hl : Cond.fieldLink own index "java/lang/String" "COMPACT_STRINGS" "Z" ∈ mh_TB) (hd : decode cc pc = .ok (.getstatic index, 3)) (kk : mh_W own cc nL rt ini R n0 mc ms Ex Φ slots sh I L (pc + 3) lv (.int 1 :: st)) : mh_W own cc nL rt ini R n0 mc ms Ex Φ slots sh I L pc lv st := by
  intro p l e s m args below meth c D ad A cA H locs ls K S
  exact va_gets K.x K.b K.e.2.2.2.1 S.S K.hown (K.tb _ hl) (fun _ h => h) hd (kk p l e s m args below meth c D ad A cA H locs ls K S)
theorem mw_getsF {index : Nat} (hl : Cond.fieldLink own index "jdk/internal/util/Preconditions" "SIOOBE_FORMATTER" "Ljava/util/function/BiFunction;" ∈ mh_TB) (hd : decode cc pc = .ok (.getstatic index, 3)) (kk : ∀ w : Value, w = .null ∨ w = .ref 1020 → mh_W own cc nL rt ini R n0 mc ms Ex Φ slots sh I L (pc + 3) lv (w :: st)) : mh_W own cc nL rt ini R n0 mc ms Ex Φ slots sh I L pc lv st := by
  intro p l e s m args below meth c D ad A cA H locs ls K S
  rcases K.e.2.2.2.2.1 with hz | hz
  · exact va_gets K.x K.b hz S.S K.hown (K.tb _ hl) (fun _ h => h) hd (kk .null (Or.inl rfl) p l e s m args below meth c D ad A cA H locs ls K S)
  · exact va_gets K.x K.b hz S.S K.hown (K.tb _ hl) (fun _ h => h) hd (kk (.ref 1020) (Or.inr rfl) p l e s m args below meth c D ad A cA H locs ls K S)
theorem mw_blen {i : Nat} (hi : i < 5) (hd : decode cc pc = .ok (.arraylength, 1)) (kk : mh_W own cc nL rt ini R n0 mc ms Ex Φ slots sh I L (pc + 1) lv (.int (nI (mh_len.getD i 0)) :: st)) : mh_W own cc nL rt ini R n0 mc ms Ex Φ slots sh I L pc lv (.ref (1010 + i) :: st) := by
  intro p l e s m args below meth c D ad A cA H locs ls K S
  exact va_tlen K.x K.b ((K.e.2.2.1).1 i hi).2.2.2 S.S rfl hd (kk p l e s m args below meth c D ad A cA H locs ls K S)
theorem mw_bald {i : Nat} {j : Int32} (hi : i < 5) (hin : ¬ (j < 0 ∨ mh_len.getD i 0 ≤ j.toNatClampNeg)) (hd : decode cc pc = .ok (.baload, 1)) (kk : mh_W own cc nL rt ini R n0 mc ms Ex Φ slots sh I L (pc + 1) lv (.int ((mh_byt.getD i []).getD j.toNatClampNeg 0) :: st)) : mh_W own cc nL rt ini R n0 mc ms Ex Φ slots sh I L pc lv (.int j :: .ref (1010 + i) :: st) := by
  intro p l e s m args below meth c D ad A cA H locs ls K S
  exact va_tb K.x K.b ((K.e.2.2.1).1 i hi).2.2.2 S.S hin rfl hd (kk p l e s m args below meth c D ad A cA H locs ls K S)
theorem mw_i2c {x : Int32} (hd : decode cc pc = .ok (.i2c, 1)) (kk : mh_W own cc nL rt ini R n0 mc ms Ex Φ slots sh I L (pc + 1) lv (.int ((x.toUInt32 % 65536).toInt32) :: st)) : mh_W own cc nL rt ini R n0 mc ms Ex Φ slots sh I L pc lv (.int x :: st) := by
  intro p l e s m args below meth c D ad A cA H locs ls K S
  exact lv_i2c K.x K.b hd rfl (kk p l e s m args below meth c D ad A cA H locs ls K S)
theorem mw_callVS {index n i : Nat} {y : MethodName} {bytes : ByteArray} {maxL : Nat} {ret : Option FieldType} {Rc : Room} {Φ' : mh_P} (hi : i < 5) (q : mh_cv own index y n) (hcode : Cond.code y bytes maxL ret ∈ mh_TB) (hd : decode cc pc = .ok (.invokevirtual index, 3)) (As : List Value) (stk : List Value) (hstk : stk = As.reverse ++ .ref (1000 + i) :: st) (hn : As.length = n) (hyc : y.cls = "java/lang/String")
    (hC : mh_CT y bytes maxL ret Rc sh I L (.ref (1000 + i) :: As) Φ') (hR : Rc.frames + 1 ≤ R.frames ∧ 8 + (maxL + 11) + Rc.locals ≤ R.locals) (hrest : (st.map fun v => v.category).sum ≤ 8) (hcs : sh.length - n0 + Rc.cells ≤ R.cells ∧ slots + Rc.slots ≤ R.slots)
    (kk : ∀ r sh1 I1 L1, Φ' r sh1 I1 L1 → sh1.length = sh.length + Rc.cells ∧ mh_W own cc nL rt ini R n0 mc ms Ex Φ (slots + Rc.slots) sh1 I1 L1 (pc + 3) lv (r.toList ++ st)) : mh_W own cc nL rt ini R n0 mc ms Ex Φ slots sh I L pc lv stk := by
  subst hstk
  intro p l e s m args below meth c D ad A cA H locs ls K S
  refine W_szb (fun hz0 hz => ?_)
  obtain ⟨had, hAA, hpre⟩ := mh_pre K S hz
  have hM := hC l D ad cA H.size S.big had
  have hrun := fun (cw : (mh_cl own index y n)) => (?_ : va_Run p l e R s m args below meth c H locs (sh.length - n0) slots Rc.cells Rc.slots (F0 m pc ls ((As.reverse ++ .ref (1000 + i) :: st).map (mh_v ad))) (st.map (mh_v ad)) (mh_Q D ad (mh_A ad sh.length H.size) sh.length Φ' (Value.ref (ad (1000 + i)) :: As.map (mh_v ad)).toArray) (mh_A ad sh.length H.size))
  · refine mh_on (hrun q.1) S.S hAA hAA (fun r cA1 sh1 I1 L1 H1 locs1 hφ hB hbig hn1 hS1 _ => ?_)
    obtain ⟨hlen, hk⟩ := kk r sh1 I1 L1 hφ
    have hk1 := hk p l e s m args below meth c D ad A cA1 H1 locs1 ls K (mh_back S hAA hB hbig hn1 hS1)
    have h3 := S.hn0
    rw [show sh1.length - n0 = sh.length - n0 + Rc.cells by omega, List.map_append] at hk1
    have e1 : r.toList.map (mh_v ad) = (r.map (mh_v ad)).toList := by cases r <;> rfl
    rw [e1] at hk1
    exact hk1
  · have hstack : (As.reverse ++ Value.ref (1000 + i) :: st).map (mh_v ad) = (As.map (mh_v ad)).reverse ++ Value.ref (ad (1000 + i)) :: st.map (mh_v ad) := by
      rw [List.map_append, List.map_reverse, List.map_cons]; rfl
    have hsum : 2 * (F0 m pc ls ((As.reverse ++ Value.ref (1000 + i) :: st).map (mh_v ad))).monitorRoom + ((st.map (mh_v ad)).map fun v => v.category).sum ≤ 8 := lv_room (by rw [mh_cats]; exact hrest)
    obtain ⟨⟨hlink, hini', hy, hdesc⟩, hinst, hsel⟩ := q
    have hpv : PreV s H y.cls (ad (1000 + i)) (va_Pc ((Value.ref (1000 + i) :: As).map (mh_v ad)) (fun U => U.heap.size = H.size ∧ mh_B D ad cA (mh_A ad sh.length H.size) sh I L U.heap U ∧ mh_E (mh_A ad sh.length H.size) ad U)) (As.map (mh_v ad)) :=
      ⟨mh_blind, by rw [hyc]; exact vk_recv (i := i) K.e.2.2.1 hi S.S, fun U hU hW => ⟨rfl, hpre U hU hW⟩⟩
    rcases hlink with hlink | ⟨host, hlink⟩
    · exact va_runV (nL := nL) (own := own) (C := y.cls) (As := As.map (mh_v ad)) ⟨K.x, K.b, K.ml, K.hown, K.tb⟩ hM ⟨callB_of n K.tb (mh_good hcode) rfl rfl rfl (K.tb _ hini') (K.tb _ hlink) ⟨hy.1, hy.2, hdesc⟩ hR, K.tb _ hinst, K.tb _ hsel⟩ hpv rfl (by rw [List.length_map]; exact hn) S.hlv.1 hstack hsum hd hcs
    · exact va_runVN (nL := nL) (own := own) (C := y.cls) (host := host) (As := As.map (mh_v ad)) ⟨K.x, K.b, K.ml, K.hown, K.tb⟩ hM ⟨va_cnB n K.tb (mh_good hcode) rfl rfl rfl (K.e.1 _ hlink) (K.tb _ hini') ⟨hy.1, hy.2, hdesc⟩ hR, K.tb _ hinst, K.tb _ hsel⟩ hpv rfl (by rw [List.length_map]; exact hn) S.hlv.1 hstack hsum hd hcs
end MH8
