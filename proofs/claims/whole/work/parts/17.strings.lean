/-! the String constants, and the JDK's methods that read them -/
section MH8
variable {own : String} {cc : ByteArray} {nL : Nat} {rt : Option FieldType} {ini : Bool} {R : Room} {n0 mc ms : Nat} {Ex : mh_X} {Φ : mh_P} {slots : Nat} {sh : List mh_C} {I : mh_I} {L : mh_L} {pc : Nat} {lv : List (Nat × Value)} {st : List Value}
theorem mw_ldcA (ho : own = RX5) (hd : decode cc pc = .ok (.ldc 51, 2)) (kk : mh_W own cc nL rt ini R n0 mc ms Ex Φ slots sh I L (pc + 2) lv (.ref 1000 :: st)) : mh_W own cc nL rt ini R n0 mc ms Ex Φ slots sh I L pc lv st := by
  intro p l e s m args below meth c D ad A cA H locs ls K S
  subst ho
  exact va_ldcS K.x K.b K.hown K.e.2.1.1 hd (kk p l e s m args below meth c D ad A cA H locs ls K S)
theorem mw_ldcB (ho : own = RX3) (hd : decode cc pc = .ok (.ldc 84, 2)) (kk : mh_W own cc nL rt ini R n0 mc ms Ex Φ slots sh I L (pc + 2) lv (.ref 1001 :: st)) : mh_W own cc nL rt ini R n0 mc ms Ex Φ slots sh I L pc lv st := by
  intro p l e s m args below meth c D ad A cA H locs ls K S
  subst ho
  exact va_ldcS K.x K.b K.hown K.e.2.1.2 hd (kk p l e s m args below meth c D ad A cA H locs ls K S)
theorem mw_strv {index i : Nat} (hi : i < 2) (hl : Cond.fieldLink own index "java/lang/String" "value" "[B" ∈ mh_TB) (hd : decode cc pc = .ok (.getfield index, 3)) (kk : mh_W own cc nL rt ini R n0 mc ms Ex Φ slots sh I L (pc + 3) lv (.ref (1010 + i) :: st)) : mh_W own cc nL rt ini R n0 mc ms Ex Φ slots sh I L pc lv (.ref (1000 + i) :: st) := by
  intro p l e s m args below meth c D ad A cA H locs ls K S
  exact vk_getf K.x K.b ((K.e.2.2.1).1 i hi).2.2.1 S.S K.hown (K.tb _ hl) (fun _ h => h) hd (kk p l e s m args below meth c D ad A cA H locs ls K S)
theorem mw_strc {index i : Nat} (hi : i < 2) (hl : Cond.fieldLink own index "java/lang/String" "coder" "B" ∈ mh_TB) (hd : decode cc pc = .ok (.getfield index, 3)) (kk : mh_W own cc nL rt ini R n0 mc ms Ex Φ slots sh I L (pc + 3) lv (.int 0 :: st)) : mh_W own cc nL rt ini R n0 mc ms Ex Φ slots sh I L pc lv (.ref (1000 + i) :: st) := by
  intro p l e s m args below meth c D ad A cA H locs ls K S
  exact vk_getf K.x K.b ((K.e.2.2.1).1 i hi).2.1 S.S K.hown (K.tb _ hl) (fun _ h => h) hd (kk p l e s m args below meth c D ad A cA H locs ls K S)
theorem mw_getsC {index : Nat} (hl : Cond.fieldLink own index "java/lang/String" "COMPACT_STRINGS" "Z" ∈ mh_TB) (hd : decode cc pc = .ok (.getstatic index, 3)) (kk : mh_W own cc nL rt ini R n0 mc ms Ex Φ slots sh I L (pc + 3) lv (.int 1 :: st)) : mh_W own cc nL rt ini R n0 mc ms Ex Φ slots sh I L pc lv st := by
  intro p l e s m args below meth c D ad A cA H locs ls K S
  exact va_gets K.x K.b K.e.2.2.2.1 S.S K.hown (K.tb _ hl) (fun _ h => h) hd (kk p l e s m args below meth c D ad A cA H locs ls K S)
theorem mw_getsF {index : Nat} (hl : Cond.fieldLink own index "jdk/internal/util/Preconditions" "SIOOBE_FORMATTER" "Ljava/util/function/BiFunction;" ∈ mh_TB) (hd : decode cc pc = .ok (.getstatic index, 3)) (kk : ∀ w : Value, w = .null ∨ w = .ref 1020 → mh_W own cc nL rt ini R n0 mc ms Ex Φ slots sh I L (pc + 3) lv (w :: st)) : mh_W own cc nL rt ini R n0 mc ms Ex Φ slots sh I L pc lv st := by
  intro p l e s m args below meth c D ad A cA H locs ls K S
  rcases K.e.2.2.2.2.1 with hz | hz
  · exact va_gets K.x K.b hz S.S K.hown (K.tb _ hl) (fun _ h => h) hd (kk .null (Or.inl rfl) p l e s m args below meth c D ad A cA H locs ls K S)
  · exact va_gets K.x K.b hz S.S K.hown (K.tb _ hl) (fun _ h => h) hd (kk (.ref 1020) (Or.inr rfl) p l e s m args below meth c D ad A cA H locs ls K S)
theorem mw_blen {i : Nat} (hi : i < 2) (hd : decode cc pc = .ok (.arraylength, 1)) (kk : mh_W own cc nL rt ini R n0 mc ms Ex Φ slots sh I L (pc + 1) lv (.int (nI (mh_len.getD i 0)) :: st)) : mh_W own cc nL rt ini R n0 mc ms Ex Φ slots sh I L pc lv (.ref (1010 + i) :: st) := by
  intro p l e s m args below meth c D ad A cA H locs ls K S
  exact va_tlen K.x K.b ((K.e.2.2.1).1 i hi).2.2.2 S.S rfl hd (kk p l e s m args below meth c D ad A cA H locs ls K S)
theorem mw_bald {i : Nat} {j : Int32} (hi : i < 2) (hin : ¬ (j < 0 ∨ mh_len.getD i 0 ≤ j.toNatClampNeg)) (hd : decode cc pc = .ok (.baload, 1)) (kk : mh_W own cc nL rt ini R n0 mc ms Ex Φ slots sh I L (pc + 1) lv (.int ((mh_byt.getD i []).getD j.toNatClampNeg 0) :: st)) : mh_W own cc nL rt ini R n0 mc ms Ex Φ slots sh I L pc lv (.int j :: .ref (1010 + i) :: st) := by
  intro p l e s m args below meth c D ad A cA H locs ls K S
  exact va_tb K.x K.b ((K.e.2.2.1).1 i hi).2.2.2 S.S hin rfl hd (kk p l e s m args below meth c D ad A cA H locs ls K S)
theorem mw_i2c {x : Int32} (hd : decode cc pc = .ok (.i2c, 1)) (kk : mh_W own cc nL rt ini R n0 mc ms Ex Φ slots sh I L (pc + 1) lv (.int ((x.toUInt32 % 65536).toInt32) :: st)) : mh_W own cc nL rt ini R n0 mc ms Ex Φ slots sh I L pc lv (.int x :: st) := by
  intro p l e s m args below meth c D ad A cA H locs ls K S
  exact lv_i2c K.x K.b hd rfl (kk p l e s m args below meth c D ad A cA H locs ls K S)
theorem mw_callVS {index n i : Nat} {y : MethodName} {bytes : ByteArray} {maxL : Nat} {ret : Option FieldType} {Rc : Room} {Φ' : mh_P} (hi : i < 2) (q : mh_cv own index y n) (hcode : Cond.code y bytes maxL ret ∈ mh_TB) (hd : decode cc pc = .ok (.invokevirtual index, 3)) (As : List Value) (stk : List Value) (hstk : stk = As.reverse ++ .ref (1000 + i) :: st) (hn : As.length = n) (hyc : y.cls = "java/lang/String")
    (hC : mh_CT y bytes maxL ret Rc sh I L (.ref (1000 + i) :: As) Φ') (hR : Rc.frames + 1 ≤ R.frames ∧ 8 + (maxL + 11) + Rc.locals ≤ R.locals) (hrest : (st.map fun v => v.category).sum ≤ 8) (hcs : sh.length - n0 + Rc.cells ≤ R.cells ∧ slots + Rc.slots ≤ R.slots)
    (kk : ∀ r sh1 I1 L1, Φ' r sh1 I1 L1 → sh1.length = sh.length + Rc.cells ∧ mh_W own cc nL rt ini R n0 mc ms Ex Φ (slots + Rc.slots) sh1 I1 L1 (pc + 3) lv (r.toList ++ st)) : mh_W own cc nL rt ini R n0 mc ms Ex Φ slots sh I L pc lv stk := by
  subst hstk
  intro p l e s m args below meth c D ad A cA H locs ls K S
  refine W_szb (fun hz0 hz => ?_)
  obtain ⟨had, hAA, hpre⟩ := mh_pre K S hz
  have hM := hC l D ad cA H.size S.big had
  have hrun := fun (cw : (mh_cl own index y n)) => (?_ : va_Run p l e R s m args below meth c H locs (sh.length - n0) slots Rc.cells Rc.slots (F0 m pc ls ((As.reverse ++ .ref (1000 + i) :: st).map (mh_v ad))) (st.map (mh_v ad)) (mh_Q D ad (mh_A ad sh.length H.size) sh.length Φ' (Value.ref (ad (1000 + i)) :: As.map (mh_v ad)).toArray) (mh_A ad sh.length H.size))
  · refine mh_on (hrun q.1) S.S hAA hAA (fun r cA1 sh1 I1 L1 H1 locs1 hφ hB hbig hn1 hS1 _ => ?_)
    obtain ⟨hlen, hk⟩ := kk r sh1 I1 L1 hφ
    have hk1 := hk p l e s m args below meth c D ad A cA1 H1 locs1 ls K (mh_back S hAA hB hbig hn1 hS1)
    have h3 := S.hn0
    rw [show sh1.length - n0 = sh.length - n0 + Rc.cells by omega, List.map_append] at hk1
    have e1 : r.toList.map (mh_v ad) = (r.map (mh_v ad)).toList := by cases r <;> rfl
    rw [e1] at hk1
    exact hk1
  · have hstack : (As.reverse ++ Value.ref (1000 + i) :: st).map (mh_v ad) = (As.map (mh_v ad)).reverse ++ Value.ref (ad (1000 + i)) :: st.map (mh_v ad) := by
      rw [List.map_append, List.map_reverse, List.map_cons]; rfl
    have hsum : 2 * (F0 m pc ls ((As.reverse ++ Value.ref (1000 + i) :: st).map (mh_v ad))).monitorRoom + ((st.map (mh_v ad)).map fun v => v.category).sum ≤ 8 := lv_room (by rw [mh_cats]; exact hrest)
    obtain ⟨⟨hlink, hini', hy, hdesc⟩, hinst, hsel⟩ := q
    have hpv : PreV s H y.cls (ad (1000 + i)) (va_Pc ((Value.ref (1000 + i) :: As).map (mh_v ad)) (fun U => U.heap.size = H.size ∧ mh_B D ad cA (mh_A ad sh.length H.size) sh I L U.heap U ∧ mh_E (mh_A ad sh.length H.size) ad U)) (As.map (mh_v ad)) :=
      ⟨mh_blind, by rw [hyc]; exact vk_recv (i := i) K.e.2.2.1 hi S.S, fun U hU hW => ⟨rfl, hpre U hU hW⟩⟩
    rcases hlink with hlink | ⟨host, hlink⟩
    · exact va_runV (nL := nL) (own := own) (C := y.cls) (As := As.map (mh_v ad)) ⟨K.x, K.b, K.ml, K.hown, K.tb⟩ hM ⟨callB_of n K.tb (mh_good hcode) rfl rfl rfl (K.tb _ hini') (K.tb _ hlink) ⟨hy.1, hy.2, hdesc⟩ hR, K.tb _ hinst, K.tb _ hsel⟩ hpv rfl (by rw [List.length_map]; exact hn) S.hlv.1 hstack hsum hd hcs
    · exact va_runVN (nL := nL) (own := own) (C := y.cls) (host := host) (As := As.map (mh_v ad)) ⟨K.x, K.b, K.ml, K.hown, K.tb⟩ hM ⟨va_cnB n K.tb (mh_good hcode) rfl rfl rfl (K.e.1 _ hlink) (K.tb _ hini') ⟨hy.1, hy.2, hdesc⟩ hR, K.tb _ hinst, K.tb _ hsel⟩ hpv rfl (by rw [List.length_map]; exact hn) S.hlv.1 hstack hsum hd hcs
end MH8
