/-! constructors -/
def mh_rmc (d c s : Nat) : Room := { frames := d, cells := c, slots := s, locals := 40 * d }
theorem mh_ga (P l : List mh_C) (k : Nat) : (P ++ l)[P.length + k]? = l[k]? := by
  rw [List.getElem?_append_right (Nat.le_add_right _ _), Nat.add_sub_cancel_left]
theorem mh_gs (P l : List mh_C) (k : Nat) (c : mh_C) : (P ++ l).set (P.length + k) c = P ++ l.set k c := by
  rw [List.set_append_right _ _ (Nat.le_add_right _ _), Nat.add_sub_cancel_left]
section MH11
variable {own : String} {cc : ByteArray} {nL : Nat} {rt : Option FieldType} {ini : Bool} {R : Room} {n0 mc ms : Nat} {Ex : mh_X} {Φ : mh_P} {slots : Nat} {sh : List mh_C} {I : mh_I} {L : mh_L} {pc : Nat} {lv : List (Nat × Value)} {st : List Value}
theorem mw_newaP {P l : List mh_C} {N : Nat} {n : Int32} (hd : decode cc pc = .ok (.newarray .int, 2)) (hn : ¬ n < 0) (hN : n.toNatClampNeg = N) (hN2 : N ≤ 60000000) (hbig : P.length + l.length < 999) (hcs : P.length + l.length - n0 + 1 ≤ R.cells ∧ slots + N ≤ R.slots)
    (kk : mh_W own cc nL rt ini R n0 mc ms Ex Φ (slots + N) (P ++ (l ++ [mh_row N])) (mh_z I (P.length + l.length)) (mh_zl L (P.length + l.length)) (pc + 2) lv (.ref (P.length + l.length) :: st)) : mh_W own cc nL rt ini R n0 mc ms Ex Φ slots (P ++ l) I L pc lv (.int n :: st) := by
  refine mw_newa (t := 0) (Or.inl ⟨rfl, rfl⟩) wd_207 hd hn hN hN2 (by rw [List.length_append]; exact hbig) (by rw [List.length_append]; exact hcs) ?_
  rw [List.length_append, List.append_assoc]
  exact kk
theorem mw_putrP {P l : List mh_C} {index ci k j b : Nat} {fs : List mh_F} {ty : FieldType} {fin : Bool} (q : mh_fp own index ci k ty fin) (hi : fin = true → ini = true) (hty : refKind ty = true) (hd : decode cc pc = .ok (.putfield index, 3)) (hs : l[j]? = some (.inl (ci, fs))) (hk : k < fs.length)
    (kk : mh_W own cc nL rt ini R n0 mc ms Ex Φ slots (P ++ l.set j (.inl (ci, fs.set k (.inr (some b))))) I L (pc + 3) lv st) : mh_W own cc nL rt ini R n0 mc ms Ex Φ slots (P ++ l) I L pc lv (.ref b :: .ref (P.length + j) :: st) := by
  refine mw_putr q hi hty hd ((mh_ga P l j).trans hs) hk ?_
  rw [mh_gs]
  exact kk
theorem mw_ir {index n b : Nat} {y : MethodName} {bytes : ByteArray} {maxL : Nat} {Rc : Room} {sh1 : List mh_C} {I1 : mh_I} {L1 : mh_L} (q : mh_ci own index y n) (hcode : Cond.code y bytes maxL none ∈ mh_TB) (hd : decode cc pc = .ok (.invokespecial index, 3)) (As : List Value) (stk : List Value) (hstk : stk = As.reverse ++ .ref b :: st) (hn : As.length = n)
    (hC : mh_CT y bytes maxL none Rc sh I L (.ref b :: As) (mh_ret none sh1 I1 L1)) (hR : Rc.frames + 1 ≤ R.frames ∧ 8 + (maxL + 11) + Rc.locals ≤ R.locals) (hrest : (st.map fun v => v.category).sum ≤ 8) (hcs : sh.length - n0 + Rc.cells ≤ R.cells ∧ slots + Rc.slots ≤ R.slots) (hlen : sh1.length = sh.length + Rc.cells)
    (kk : mh_W own cc nL rt ini R n0 mc ms Ex Φ (slots + Rc.slots) sh1 I1 L1 (pc + 3) lv st) : mh_W own cc nL rt ini R n0 mc ms Ex Φ slots sh I L pc lv stk :=
  mw_callI q hcode hd As stk hstk hn hC hR hrest hcs (fun r s1 J1 K1 hφ => by obtain ⟨rfl, rfl, rfl, rfl⟩ := hφ; exact ⟨hlen, kk⟩)
theorem mw_newE {index ci a : Nat} {fs : List mh_F} (ha : sh.length = a) (q : mh_nw own index ci fs) (hd : decode cc pc = .ok (.new index, 3)) (hbig : a < 999) (hcs : a - n0 + 1 ≤ R.cells ∧ slots + fs.length ≤ R.slots)
    (kk : mh_W own cc nL rt ini R n0 mc ms Ex Φ (slots + fs.length) (sh ++ [.inl (ci, fs)]) (mh_z I a) (mh_zl L a) (pc + 3) lv (.ref a :: st)) : mh_W own cc nL rt ini R n0 mc ms Ex Φ slots sh I L pc lv st := by
  subst ha
  exact mw_new q hd hbig hcs kk
theorem mw_newaE {t N a : Nat} {n : Int32} {atype : ArrayType} (ha : sh.length = a) (ht : t = 0 ∧ atype = .int ∨ t = 1 ∧ atype = .long ∨ t = 2 ∧ atype = .byte) (hw : Cond.arrayClass (newarray.typeOf atype) ∈ mh_TB) (hd : decode cc pc = .ok (.newarray atype, 2)) (hn : ¬ n < 0) (hN : n.toNatClampNeg = N) (hN2 : N ≤ 60000000) (hbig : a < 999) (hcs : a - n0 + 1 ≤ R.cells ∧ slots + N ≤ R.slots)
    (kk : mh_W own cc nL rt ini R n0 mc ms Ex Φ (slots + N) (sh ++ [.inr (t, N, fun _ => none)]) (mh_z I a) (mh_zl L a) (pc + 2) lv (.ref a :: st)) : mh_W own cc nL rt ini R n0 mc ms Ex Φ slots sh I L pc lv (.int n :: st) := by
  subst ha
  exact mw_newa ht hw hd hn hN hN2 hbig hcs kk
theorem mw_anewE {t N index a : Nat} {n : Int32} {C : String} (ha : sh.length = a) (hC : mh_ty (t + 3) = .object C) (hao : C = RX2 ∨ C = RX4) (hw : Cond.classLink own index C ∈ mh_TB) (hd : decode cc pc = .ok (.anewarray index, 3)) (hn : ¬ n < 0) (hN : n.toNatClampNeg = N) (hN2 : N ≤ 60000000) (hbig : a < 999) (hcs : a - n0 + 1 ≤ R.cells ∧ slots + N ≤ R.slots)
    (kk : mh_W own cc nL rt ini R n0 mc ms Ex Φ (slots + N) (sh ++ [.inr (t + 3, N, fun _ => none)]) I L (pc + 3) lv (.ref a :: st)) : mh_W own cc nL rt ini R n0 mc ms Ex Φ slots sh I L pc lv (.int n :: st) := by
  subst ha
  exact mw_anew hC hao hw hd hn hN hN2 hbig hcs kk
theorem mw_aastE {a n t b ci kx : Nat} {r : Nat → Option Nat} {i : Int32} {fs : List mh_F} (hd : decode cc pc = .ok (.aastore, 1)) (hs : sh[a]? = some (.inr (t + 3, n, r))) (hb : sh[b]? = some (.inl (ci, fs))) (hci : ∃ (C : String) (T : u_T) (N : Nat), vwCl[ci]? = some (C, T, N) ∧ mh_ty (t + 3) = .object C) (hk : kx = i.toNatClampNeg) (hin : ¬ (i < 0 ∨ n ≤ i.toNatClampNeg)) (kk : mh_W own cc nL rt ini R n0 mc ms Ex Φ slots (sh.set a (.inr (t + 3, n, va_up r kx (some b)))) I L (pc + 1) lv st) : mh_W own cc nL rt ini R n0 mc ms Ex Φ slots sh I L pc lv (.ref b :: .int i :: .ref a :: st) := by
  subst hk
  exact mw_aast hd hs hb hci hin kk
theorem mw_conv {slots' : Nat} {sh' : List mh_C} (h1 : slots = slots') (h2 : sh = sh') (kk : mh_W own cc nL rt ini R n0 mc ms Ex Φ slots' sh' I L pc lv st) : mh_W own cc nL rt ini R n0 mc ms Ex Φ slots sh I L pc lv st := by
  subst h1; subst h2; exact kk
theorem mw_irE {index n b : Nat} {y : MethodName} {bytes : ByteArray} {maxL : Nat} {Rc : Room} {sh0 sh1 : List mh_C} {I1 : mh_I} {L1 : mh_L} (hsh : sh = sh0) (q : mh_ci own index y n) (hcode : Cond.code y bytes maxL none ∈ mh_TB) (hd : decode cc pc = .ok (.invokespecial index, 3)) (As : List Value) (stk : List Value) (hstk : stk = As.reverse ++ .ref b :: st) (hn : As.length = n)
    (hC : mh_CT y bytes maxL none Rc sh0 I L (.ref b :: As) (mh_ret none sh1 I1 L1)) (hR : Rc.frames + 1 ≤ R.frames ∧ 8 + (maxL + 11) + Rc.locals ≤ R.locals) (hrest : (st.map fun v => v.category).sum ≤ 8) (hcs : sh0.length - n0 + Rc.cells ≤ R.cells ∧ slots + Rc.slots ≤ R.slots) (hlen : sh1.length = sh0.length + Rc.cells)
    (kk : mh_W own cc nL rt ini R n0 mc ms Ex Φ (slots + Rc.slots) sh1 I1 L1 (pc + 3) lv st) : mh_W own cc nL rt ini R n0 mc ms Ex Φ slots sh I L pc lv stk := by
  subst hsh
  exact mw_ir q hcode hd As stk hstk hn hC hR hrest hcs hlen kk
end MH11
abbrev fs0X0 : List mh_F := [.inr none, .inl 1, .inl 1]
abbrev fs0X1 : List mh_F := [.inr none, .inr none, .inl 1, .inl 1, .inl 0]
abbrev fs0X2 : List mh_F := [.inr none, .inl 0, .inl 0]
abbrev fs0X3 : List mh_F := [.inr none, .inl 0, .inl 0, .inl 0, .inl 0, .inl 0, .inr none]
abbrev fs0X4 : List mh_F := [.inr none, .inl 0, .inr none, .inr none, .inl 0]
abbrev w_X0_init (P : List mh_C) (slots : Nat) (sh : List mh_C) (Φ : mh_P) (I : mh_I) (L : mh_L) (pc : Nat) (lv : List (Nat × Value)) (st : List Value) : Prop := mh_W RX0 cX0_init 1 none true (mh_rmc 1 1 48) (P ++ ([.inl (0, fs0X0)] : List mh_C)).length 1 48 mh_noX Φ slots sh I L pc lv st
def cI_X0 (a : Nat) (I : mh_I) : mh_I := (mh_z I (a + 1))
def cL_X0 (a : Nat) (L : mh_L) : mh_L := (mh_zl L (a + 1))
set_option maxHeartbeats 4000000 in
set_option maxRecDepth 100000 in
theorem t_X0_init {P : List mh_C} {I : mh_I} {L : mh_L} (hb : P.length < 900) : mh_CT yX0_init cX0_init 1 none (mh_rmc 1 1 48) (P ++ [.inl (0, fs0X0)]) I L [.ref P.length] (mh_ret none (P ++ [.inl (0, [.inr (some (P.length + 1)), .inl 1, .inl 1]), mh_row 48]) (cI_X0 P.length I) (cL_X0 P.length L)) := by
  refine mh_ofW (ini := true) RX0 rfl (by decide) (fun _ => rfl) (Nat.le_of_ble_eq_true rfl) ?_
  show w_X0_init P 0 (P ++ [.inl (0, fs0X0)]) (mh_ret none (P ++ [.inl (0, [.inr (some (P.length + 1)), .inl 1, .inl 1]), mh_row 48]) (cI_X0 P.length I) (cL_X0 P.length L)) I L 0 [(0, .ref P.length)] []
  refine mw_aload_n dX0_init_0 0 rfl ?_
  refine mw_oinit ⟨wd_243, wd_178, wd_179⟩ dX0_init_1 ⟨by decide, by decide⟩ ?_
  refine mw_aload_n dX0_init_4 0 rfl ?_
  refine mw_bipush (v := 48) dX0_init_5 (by decide) ?_
  refine mw_newaP (P := P) (N := 48) dX0_init_7 (by decide) (by decide) (by decide) (by show P.length + 1 < 999; omega) (by rw [List.length_append]; exact ⟨by show P.length + 1 - (P.length + 1) + 1 ≤ 1; omega, Nat.le_of_ble_eq_true rfl⟩) ?_
  show w_X0_init P 48 (P ++ [.inl (0, [.inr none, .inl 1, .inl 1]), mh_row 48]) (mh_ret none (P ++ [.inl (0, [.inr (some (P.length + 1)), .inl 1, .inl 1]), mh_row 48]) (cI_X0 P.length I) (cL_X0 P.length L)) (mh_z I (P.length + 1)) (mh_zl L (P.length + 1)) 9 [(0, .ref P.length)] [.ref (P.length + 1), .ref P.length]
  refine mw_putrP (P := P) (j := 0) pf_X0_9 (fun _ => rfl) rfl dX0_init_9 rfl (Nat.le_of_ble_eq_true rfl) ?_
  show w_X0_init P 48 (P ++ [.inl (0, [.inr (some (P.length + 1)), .inl 1, .inl 1]), mh_row 48]) (mh_ret none (P ++ [.inl (0, [.inr (some (P.length + 1)), .inl 1, .inl 1]), mh_row 48]) (cI_X0 P.length I) (cL_X0 P.length L)) (mh_z I (P.length + 1)) (mh_zl L (P.length + 1)) 12 [(0, .ref P.length)] []
  exact mw_vret dX0_init_12 rfl (by rw [List.length_append, List.length_append]; show P.length + 2 - (P.length + 1) ≤ 1; omega) (Nat.le_refl _) mh_ret_rfl
theorem t_X0_initE {P : List mh_C} {I : mh_I} {L : mh_L} {a : Nat} (ha : P.length = a) (hb : a < 900) : mh_CT yX0_init cX0_init 1 none (mh_rmc 1 1 48) (P ++ [.inl (0, fs0X0)]) I L [.ref a] (mh_ret none (P ++ [.inl (0, [.inr (some (a + 1)), .inl 1, .inl 1]), mh_row 48]) (cI_X0 a I) (cL_X0 a L)) := by
  subst ha
  exact t_X0_init hb
abbrev w_X1_init (P : List mh_C) (slots : Nat) (sh : List mh_C) (Φ : mh_P) (I : mh_I) (L : mh_L) (pc : Nat) (lv : List (Nat × Value)) (st : List Value) : Prop := mh_W RX1 cX1_init 1 none true (mh_rmc 1 2 96) (P ++ ([.inl (1, fs0X1)] : List mh_C)).length 2 96 mh_noX Φ slots sh I L pc lv st
def cI_X1 (a : Nat) (I : mh_I) : mh_I := (mh_z (mh_z I (a + 1)) (a + 2))
def cL_X1 (a : Nat) (L : mh_L) : mh_L := (mh_zl (mh_zl L (a + 1)) (a + 2))
set_option maxHeartbeats 4000000 in
set_option maxRecDepth 100000 in
theorem t_X1_init {P : List mh_C} {I : mh_I} {L : mh_L} (hb : P.length < 900) : mh_CT yX1_init cX1_init 1 none (mh_rmc 1 2 96) (P ++ [.inl (1, fs0X1)]) I L [.ref P.length] (mh_ret none (P ++ [.inl (1, [.inr (some (P.length + 1)), .inr (some (P.length + 2)), .inl 1, .inl 1, .inl 0]), mh_row 48, mh_row 48]) (cI_X1 P.length I) (cL_X1 P.length L)) := by
  refine mh_ofW (ini := true) RX1 rfl (by decide) (fun _ => rfl) (Nat.le_of_ble_eq_true rfl) ?_
  show w_X1_init P 0 (P ++ [.inl (1, fs0X1)]) (mh_ret none (P ++ [.inl (1, [.inr (some (P.length + 1)), .inr (some (P.length + 2)), .inl 1, .inl 1, .inl 0]), mh_row 48, mh_row 48]) (cI_X1 P.length I) (cL_X1 P.length L)) I L 0 [(0, .ref P.length)] []
  refine mw_aload_n dX1_init_0 0 rfl ?_
  refine mw_oinit ⟨wd_184, wd_178, wd_179⟩ dX1_init_1 ⟨by decide, by decide⟩ ?_
  refine mw_aload_n dX1_init_4 0 rfl ?_
  refine mw_bipush (v := 48) dX1_init_5 (by decide) ?_
  refine mw_newaP (P := P) (N := 48) dX1_init_7 (by decide) (by decide) (by decide) (by show P.length + 1 < 999; omega) (by rw [List.length_append]; exact ⟨by show P.length + 1 - (P.length + 1) + 1 ≤ 2; omega, Nat.le_of_ble_eq_true rfl⟩) ?_
  show w_X1_init P 48 (P ++ [.inl (1, [.inr none, .inr none, .inl 1, .inl 1, .inl 0]), mh_row 48]) (mh_ret none (P ++ [.inl (1, [.inr (some (P.length + 1)), .inr (some (P.length + 2)), .inl 1, .inl 1, .inl 0]), mh_row 48, mh_row 48]) (cI_X1 P.length I) (cL_X1 P.length L)) (mh_z I (P.length + 1)) (mh_zl L (P.length + 1)) 9 [(0, .ref P.length)] [.ref (P.length + 1), .ref P.length]
  refine mw_putrP (P := P) (j := 0) pf_X1_9 (fun _ => rfl) rfl dX1_init_9 rfl (Nat.le_of_ble_eq_true rfl) ?_
  show w_X1_init P 48 (P ++ [.inl (1, [.inr (some (P.length + 1)), .inr none, .inl 1, .inl 1, .inl 0]), mh_row 48]) (mh_ret none (P ++ [.inl (1, [.inr (some (P.length + 1)), .inr (some (P.length + 2)), .inl 1, .inl 1, .inl 0]), mh_row 48, mh_row 48]) (cI_X1 P.length I) (cL_X1 P.length L)) (mh_z I (P.length + 1)) (mh_zl L (P.length + 1)) 12 [(0, .ref P.length)] []
  refine mw_aload_n dX1_init_12 0 rfl ?_
  refine mw_bipush (v := 48) dX1_init_13 (by decide) ?_
  refine mw_newaP (P := P) (N := 48) dX1_init_15 (by decide) (by decide) (by decide) (by show P.length + 2 < 999; omega) (by rw [List.length_append]; exact ⟨by show P.length + 2 - (P.length + 1) + 1 ≤ 2; omega, Nat.le_of_ble_eq_true rfl⟩) ?_
  show w_X1_init P 96 (P ++ [.inl (1, [.inr (some (P.length + 1)), .inr none, .inl 1, .inl 1, .inl 0]), mh_row 48, mh_row 48]) (mh_ret none (P ++ [.inl (1, [.inr (some (P.length + 1)), .inr (some (P.length + 2)), .inl 1, .inl 1, .inl 0]), mh_row 48, mh_row 48]) (cI_X1 P.length I) (cL_X1 P.length L)) (mh_z (mh_z I (P.length + 1)) (P.length + 2)) (mh_zl (mh_zl L (P.length + 1)) (P.length + 2)) 17 [(0, .ref P.length)] [.ref (P.length + 2), .ref P.length]
  refine mw_putrP (P := P) (j := 0) pf_X1_15 (fun _ => rfl) rfl dX1_init_17 rfl (Nat.le_of_ble_eq_true rfl) ?_
  show w_X1_init P 96 (P ++ [.inl (1, [.inr (some (P.length + 1)), .inr (some (P.length + 2)), .inl 1, .inl 1, .inl 0]), mh_row 48, mh_row 48]) (mh_ret none (P ++ [.inl (1, [.inr (some (P.length + 1)), .inr (some (P.length + 2)), .inl 1, .inl 1, .inl 0]), mh_row 48, mh_row 48]) (cI_X1 P.length I) (cL_X1 P.length L)) (mh_z (mh_z I (P.length + 1)) (P.length + 2)) (mh_zl (mh_zl L (P.length + 1)) (P.length + 2)) 20 [(0, .ref P.length)] []
  exact mw_vret dX1_init_20 rfl (by rw [List.length_append, List.length_append]; show P.length + 3 - (P.length + 1) ≤ 2; omega) (Nat.le_refl _) mh_ret_rfl
theorem t_X1_initE {P : List mh_C} {I : mh_I} {L : mh_L} {a : Nat} (ha : P.length = a) (hb : a < 900) : mh_CT yX1_init cX1_init 1 none (mh_rmc 1 2 96) (P ++ [.inl (1, fs0X1)]) I L [.ref a] (mh_ret none (P ++ [.inl (1, [.inr (some (a + 1)), .inr (some (a + 2)), .inl 1, .inl 1, .inl 0]), mh_row 48, mh_row 48]) (cI_X1 a I) (cL_X1 a L)) := by
  subst ha
  exact t_X1_init hb
abbrev w_X2_init (P : List mh_C) (slots : Nat) (sh : List mh_C) (Φ : mh_P) (I : mh_I) (L : mh_L) (pc : Nat) (lv : List (Nat × Value)) (st : List Value) : Prop := mh_W RX2 cX2_init 1 none true (mh_rmc 1 1 48) (P ++ ([.inl (2, fs0X2)] : List mh_C)).length 1 48 mh_noX Φ slots sh I L pc lv st
def cI_X2 (a : Nat) (I : mh_I) : mh_I := (mh_u (mh_z I (a + 1)) a 1 (-1 : Int32))
def cL_X2 (a : Nat) (L : mh_L) : mh_L := (mh_zl L (a + 1))
set_option maxHeartbeats 4000000 in
set_option maxRecDepth 100000 in
theorem t_X2_init {P : List mh_C} {I : mh_I} {L : mh_L} (hb : P.length < 900) : mh_CT yX2_init cX2_init 1 none (mh_rmc 1 1 48) (P ++ [.inl (2, fs0X2)]) I L [.ref P.length] (mh_ret none (P ++ [.inl (2, [.inr (some (P.length + 1)), .inl 0, .inl 0]), mh_row 48]) (cI_X2 P.length I) (cL_X2 P.length L)) := by
  refine mh_ofW (ini := true) RX2 rfl (by decide) (fun _ => rfl) (Nat.le_of_ble_eq_true rfl) ?_
  show w_X2_init P 0 (P ++ [.inl (2, fs0X2)]) (mh_ret none (P ++ [.inl (2, [.inr (some (P.length + 1)), .inl 0, .inl 0]), mh_row 48]) (cI_X2 P.length I) (cL_X2 P.length L)) I L 0 [(0, .ref P.length)] []
  refine mw_aload_n dX2_init_0 0 rfl ?_
  refine mw_oinit ⟨wd_284, wd_178, wd_179⟩ dX2_init_1 ⟨by decide, by decide⟩ ?_
  refine mw_aload_n dX2_init_4 0 rfl ?_
  refine mw_bipush (v := 48) dX2_init_5 (by decide) ?_
  refine mw_newaP (P := P) (N := 48) dX2_init_7 (by decide) (by decide) (by decide) (by show P.length + 1 < 999; omega) (by rw [List.length_append]; exact ⟨by show P.length + 1 - (P.length + 1) + 1 ≤ 1; omega, Nat.le_of_ble_eq_true rfl⟩) ?_
  show w_X2_init P 48 (P ++ [.inl (2, [.inr none, .inl 0, .inl 0]), mh_row 48]) (mh_ret none (P ++ [.inl (2, [.inr (some (P.length + 1)), .inl 0, .inl 0]), mh_row 48]) (cI_X2 P.length I) (cL_X2 P.length L)) (mh_z I (P.length + 1)) (mh_zl L (P.length + 1)) 9 [(0, .ref P.length)] [.ref (P.length + 1), .ref P.length]
  refine mw_putrP (P := P) (j := 0) pf_X2_9 (fun _ => rfl) rfl dX2_init_9 rfl (Nat.le_of_ble_eq_true rfl) ?_
  show w_X2_init P 48 (P ++ [.inl (2, [.inr (some (P.length + 1)), .inl 0, .inl 0]), mh_row 48]) (mh_ret none (P ++ [.inl (2, [.inr (some (P.length + 1)), .inl 0, .inl 0]), mh_row 48]) (cI_X2 P.length I) (cL_X2 P.length L)) (mh_z I (P.length + 1)) (mh_zl L (P.length + 1)) 12 [(0, .ref P.length)] []
  refine mw_aload_n dX2_init_12 0 rfl ?_
  refine mw_iconst (v := -1) dX2_init_13 (by decide) ?_
  refine mw_puti (fs := [.inr (some (P.length + 1)), .inl 0, .inl 0]) pf_X2_15 (fun h => by cases h) rfl rfl dX2_init_14 ((mh_ga P _ 0).trans rfl) rfl ?_
  show w_X2_init P 48 (P ++ [.inl (2, [.inr (some (P.length + 1)), .inl 0, .inl 0]), mh_row 48]) (mh_ret none (P ++ [.inl (2, [.inr (some (P.length + 1)), .inl 0, .inl 0]), mh_row 48]) (cI_X2 P.length I) (cL_X2 P.length L)) (mh_u (mh_z I (P.length + 1)) P.length 1 (-1 : Int32)) (mh_zl L (P.length + 1)) 17 [(0, .ref P.length)] []
  exact mw_vret dX2_init_17 rfl (by rw [List.length_append, List.length_append]; show P.length + 2 - (P.length + 1) ≤ 1; omega) (Nat.le_refl _) mh_ret_rfl
theorem t_X2_initE {P : List mh_C} {I : mh_I} {L : mh_L} {a : Nat} (ha : P.length = a) (hb : a < 900) : mh_CT yX2_init cX2_init 1 none (mh_rmc 1 1 48) (P ++ [.inl (2, fs0X2)]) I L [.ref a] (mh_ret none (P ++ [.inl (2, [.inr (some (a + 1)), .inl 0, .inl 0]), mh_row 48]) (cI_X2 a I) (cL_X2 a L)) := by
  subst ha
  exact t_X2_init hb
abbrev w_X3_init (P : List mh_C) (slots : Nat) (sh : List mh_C) (Φ : mh_P) (I : mh_I) (L : mh_L) (pc : Nat) (lv : List (Nat × Value)) (st : List Value) : Prop := mh_W RX3 cX3_init 1 none true (mh_rmc 1 1 160) (P ++ ([.inl (3, fs0X3)] : List mh_C)).length 1 160 mh_noX Φ slots sh I L pc lv st
def cI_X3 (a : Nat) (I : mh_I) : mh_I := (mh_z I (a + 1))
def cL_X3 (a : Nat) (L : mh_L) : mh_L := (mh_zl L (a + 1))
set_option maxHeartbeats 4000000 in
set_option maxRecDepth 100000 in
theorem t_X3_init {P : List mh_C} {I : mh_I} {L : mh_L} (hb : P.length < 900) : mh_CT yX3_init cX3_init 1 none (mh_rmc 1 1 160) (P ++ [.inl (3, fs0X3)]) I L [.ref P.length] (mh_ret none (P ++ [.inl (3, [.inr (some (P.length + 1)), .inl 0, .inl 0, .inl 0, .inl 0, .inl 0, .inr none]), mh_row 160]) (cI_X3 P.length I) (cL_X3 P.length L)) := by
  refine mh_ofW (ini := true) RX3 rfl (by decide) (fun _ => rfl) (Nat.le_of_ble_eq_true rfl) ?_
  show w_X3_init P 0 (P ++ [.inl (3, fs0X3)]) (mh_ret none (P ++ [.inl (3, [.inr (some (P.length + 1)), .inl 0, .inl 0, .inl 0, .inl 0, .inl 0, .inr none]), mh_row 160]) (cI_X3 P.length I) (cL_X3 P.length L)) I L 0 [(0, .ref P.length)] []
  refine mw_aload_n dX3_init_0 0 rfl ?_
  refine mw_oinit ⟨wd_213, wd_178, wd_179⟩ dX3_init_1 ⟨by decide, by decide⟩ ?_
  refine mw_aload_n dX3_init_4 0 rfl ?_
  refine mw_sipush (v := 160) dX3_init_5 (by decide) ?_
  refine mw_newaP (P := P) (N := 160) dX3_init_8 (by decide) (by decide) (by decide) (by show P.length + 1 < 999; omega) (by rw [List.length_append]; exact ⟨by show P.length + 1 - (P.length + 1) + 1 ≤ 1; omega, Nat.le_of_ble_eq_true rfl⟩) ?_
  show w_X3_init P 160 (P ++ [.inl (3, [.inr none, .inl 0, .inl 0, .inl 0, .inl 0, .inl 0, .inr none]), mh_row 160]) (mh_ret none (P ++ [.inl (3, [.inr (some (P.length + 1)), .inl 0, .inl 0, .inl 0, .inl 0, .inl 0, .inr none]), mh_row 160]) (cI_X3 P.length I) (cL_X3 P.length L)) (mh_z I (P.length + 1)) (mh_zl L (P.length + 1)) 10 [(0, .ref P.length)] [.ref (P.length + 1), .ref P.length]
  refine mw_putrP (P := P) (j := 0) pf_X3_9 (fun _ => rfl) rfl dX3_init_10 rfl (Nat.le_of_ble_eq_true rfl) ?_
  show w_X3_init P 160 (P ++ [.inl (3, [.inr (some (P.length + 1)), .inl 0, .inl 0, .inl 0, .inl 0, .inl 0, .inr none]), mh_row 160]) (mh_ret none (P ++ [.inl (3, [.inr (some (P.length + 1)), .inl 0, .inl 0, .inl 0, .inl 0, .inl 0, .inr none]), mh_row 160]) (cI_X3 P.length I) (cL_X3 P.length L)) (mh_z I (P.length + 1)) (mh_zl L (P.length + 1)) 13 [(0, .ref P.length)] []
  exact mw_vret dX3_init_13 rfl (by rw [List.length_append, List.length_append]; show P.length + 2 - (P.length + 1) ≤ 1; omega) (Nat.le_refl _) mh_ret_rfl
theorem t_X3_initE {P : List mh_C} {I : mh_I} {L : mh_L} {a : Nat} (ha : P.length = a) (hb : a < 900) : mh_CT yX3_init cX3_init 1 none (mh_rmc 1 1 160) (P ++ [.inl (3, fs0X3)]) I L [.ref a] (mh_ret none (P ++ [.inl (3, [.inr (some (a + 1)), .inl 0, .inl 0, .inl 0, .inl 0, .inl 0, .inr none]), mh_row 160]) (cI_X3 a I) (cL_X3 a L)) := by
  subst ha
  exact t_X3_init hb
abbrev w_X4_init (P : List mh_C) (slots : Nat) (sh : List mh_C) (Φ : mh_P) (I : mh_I) (L : mh_L) (pc : Nat) (lv : List (Nat × Value)) (st : List Value) : Prop := mh_W RX4 cX4_init 1 none true (mh_rmc 1 3 203) (P ++ ([.inl (4, fs0X4)] : List mh_C)).length 3 203 mh_noX Φ slots sh I L pc lv st
def cI_X4 (a : Nat) (I : mh_I) : mh_I := (mh_z (mh_z (mh_z I (a + 1)) (a + 2)) (a + 3))
def cL_X4 (a : Nat) (L : mh_L) : mh_L := (mh_zl (mh_zl (mh_zl L (a + 1)) (a + 2)) (a + 3))
set_option maxHeartbeats 4000000 in
set_option maxRecDepth 100000 in
theorem t_X4_init {P : List mh_C} {I : mh_I} {L : mh_L} (hb : P.length < 900) : mh_CT yX4_init cX4_init 1 none (mh_rmc 1 3 203) (P ++ [.inl (4, fs0X4)]) I L [.ref P.length] (mh_ret none (P ++ [.inl (4, [.inr (some (P.length + 1)), .inl 0, .inr (some (P.length + 2)), .inr (some (P.length + 3)), .inl 0]), mh_row 160, mh_row 3, mh_row 40]) (cI_X4 P.length I) (cL_X4 P.length L)) := by
  refine mh_ofW (ini := true) RX4 rfl (by decide) (fun _ => rfl) (Nat.le_of_ble_eq_true rfl) ?_
  show w_X4_init P 0 (P ++ [.inl (4, fs0X4)]) (mh_ret none (P ++ [.inl (4, [.inr (some (P.length + 1)), .inl 0, .inr (some (P.length + 2)), .inr (some (P.length + 3)), .inl 0]), mh_row 160, mh_row 3, mh_row 40]) (cI_X4 P.length I) (cL_X4 P.length L)) I L 0 [(0, .ref P.length)] []
  refine mw_aload_n dX4_init_0 0 rfl ?_
  refine mw_oinit ⟨wd_262, wd_178, wd_179⟩ dX4_init_1 ⟨by decide, by decide⟩ ?_
  refine mw_aload_n dX4_init_4 0 rfl ?_
  refine mw_sipush (v := 160) dX4_init_5 (by decide) ?_
  refine mw_newaP (P := P) (N := 160) dX4_init_8 (by decide) (by decide) (by decide) (by show P.length + 1 < 999; omega) (by rw [List.length_append]; exact ⟨by show P.length + 1 - (P.length + 1) + 1 ≤ 3; omega, Nat.le_of_ble_eq_true rfl⟩) ?_
  show w_X4_init P 160 (P ++ [.inl (4, [.inr none, .inl 0, .inr none, .inr none, .inl 0]), mh_row 160]) (mh_ret none (P ++ [.inl (4, [.inr (some (P.length + 1)), .inl 0, .inr (some (P.length + 2)), .inr (some (P.length + 3)), .inl 0]), mh_row 160, mh_row 3, mh_row 40]) (cI_X4 P.length I) (cL_X4 P.length L)) (mh_z I (P.length + 1)) (mh_zl L (P.length + 1)) 10 [(0, .ref P.length)] [.ref (P.length + 1), .ref P.length]
  refine mw_putrP (P := P) (j := 0) pf_X4_9 (fun _ => rfl) rfl dX4_init_10 rfl (Nat.le_of_ble_eq_true rfl) ?_
  show w_X4_init P 160 (P ++ [.inl (4, [.inr (some (P.length + 1)), .inl 0, .inr none, .inr none, .inl 0]), mh_row 160]) (mh_ret none (P ++ [.inl (4, [.inr (some (P.length + 1)), .inl 0, .inr (some (P.length + 2)), .inr (some (P.length + 3)), .inl 0]), mh_row 160, mh_row 3, mh_row 40]) (cI_X4 P.length I) (cL_X4 P.length L)) (mh_z I (P.length + 1)) (mh_zl L (P.length + 1)) 13 [(0, .ref P.length)] []
  refine mw_aload_n dX4_init_13 0 rfl ?_
  refine mw_iconst (v := 3) dX4_init_14 (by decide) ?_
  refine mw_newaP (P := P) (N := 3) dX4_init_15 (by decide) (by decide) (by decide) (by show P.length + 2 < 999; omega) (by rw [List.length_append]; exact ⟨by show P.length + 2 - (P.length + 1) + 1 ≤ 3; omega, Nat.le_of_ble_eq_true rfl⟩) ?_
  show w_X4_init P 163 (P ++ [.inl (4, [.inr (some (P.length + 1)), .inl 0, .inr none, .inr none, .inl 0]), mh_row 160, mh_row 3]) (mh_ret none (P ++ [.inl (4, [.inr (some (P.length + 1)), .inl 0, .inr (some (P.length + 2)), .inr (some (P.length + 3)), .inl 0]), mh_row 160, mh_row 3, mh_row 40]) (cI_X4 P.length I) (cL_X4 P.length L)) (mh_z (mh_z I (P.length + 1)) (P.length + 2)) (mh_zl (mh_zl L (P.length + 1)) (P.length + 2)) 17 [(0, .ref P.length)] [.ref (P.length + 2), .ref P.length]
  refine mw_putrP (P := P) (j := 0) pf_X4_15 (fun _ => rfl) rfl dX4_init_17 rfl (Nat.le_of_ble_eq_true rfl) ?_
  show w_X4_init P 163 (P ++ [.inl (4, [.inr (some (P.length + 1)), .inl 0, .inr (some (P.length + 2)), .inr none, .inl 0]), mh_row 160, mh_row 3]) (mh_ret none (P ++ [.inl (4, [.inr (some (P.length + 1)), .inl 0, .inr (some (P.length + 2)), .inr (some (P.length + 3)), .inl 0]), mh_row 160, mh_row 3, mh_row 40]) (cI_X4 P.length I) (cL_X4 P.length L)) (mh_z (mh_z I (P.length + 1)) (P.length + 2)) (mh_zl (mh_zl L (P.length + 1)) (P.length + 2)) 20 [(0, .ref P.length)] []
  refine mw_aload_n dX4_init_20 0 rfl ?_
  refine mw_bipush (v := 40) dX4_init_21 (by decide) ?_
  refine mw_newaP (P := P) (N := 40) dX4_init_23 (by decide) (by decide) (by decide) (by show P.length + 3 < 999; omega) (by rw [List.length_append]; exact ⟨by show P.length + 3 - (P.length + 1) + 1 ≤ 3; omega, Nat.le_of_ble_eq_true rfl⟩) ?_
  show w_X4_init P 203 (P ++ [.inl (4, [.inr (some (P.length + 1)), .inl 0, .inr (some (P.length + 2)), .inr none, .inl 0]), mh_row 160, mh_row 3, mh_row 40]) (mh_ret none (P ++ [.inl (4, [.inr (some (P.length + 1)), .inl 0, .inr (some (P.length + 2)), .inr (some (P.length + 3)), .inl 0]), mh_row 160, mh_row 3, mh_row 40]) (cI_X4 P.length I) (cL_X4 P.length L)) (mh_z (mh_z (mh_z I (P.length + 1)) (P.length + 2)) (P.length + 3)) (mh_zl (mh_zl (mh_zl L (P.length + 1)) (P.length + 2)) (P.length + 3)) 25 [(0, .ref P.length)] [.ref (P.length + 3), .ref P.length]
  refine mw_putrP (P := P) (j := 0) pf_X4_18 (fun _ => rfl) rfl dX4_init_25 rfl (Nat.le_of_ble_eq_true rfl) ?_
  show w_X4_init P 203 (P ++ [.inl (4, [.inr (some (P.length + 1)), .inl 0, .inr (some (P.length + 2)), .inr (some (P.length + 3)), .inl 0]), mh_row 160, mh_row 3, mh_row 40]) (mh_ret none (P ++ [.inl (4, [.inr (some (P.length + 1)), .inl 0, .inr (some (P.length + 2)), .inr (some (P.length + 3)), .inl 0]), mh_row 160, mh_row 3, mh_row 40]) (cI_X4 P.length I) (cL_X4 P.length L)) (mh_z (mh_z (mh_z I (P.length + 1)) (P.length + 2)) (P.length + 3)) (mh_zl (mh_zl (mh_zl L (P.length + 1)) (P.length + 2)) (P.length + 3)) 28 [(0, .ref P.length)] []
  exact mw_vret dX4_init_28 rfl (by rw [List.length_append, List.length_append]; show P.length + 4 - (P.length + 1) ≤ 3; omega) (Nat.le_refl _) mh_ret_rfl
theorem t_X4_initE {P : List mh_C} {I : mh_I} {L : mh_L} {a : Nat} (ha : P.length = a) (hb : a < 900) : mh_CT yX4_init cX4_init 1 none (mh_rmc 1 3 203) (P ++ [.inl (4, fs0X4)]) I L [.ref a] (mh_ret none (P ++ [.inl (4, [.inr (some (a + 1)), .inl 0, .inr (some (a + 2)), .inr (some (a + 3)), .inl 0]), mh_row 160, mh_row 3, mh_row 40]) (cI_X4 a I) (cL_X4 a L)) := by
  subst ha
  exact t_X4_init hb
