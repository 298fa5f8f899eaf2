/-! what the written functions are made of: a test, an index, a divisor, a name, a joint; the rooms; calls that make no cell -/
def mh_ix {α : Type} (i : Int32) (n : Nat) (f : Nat → Option α) : Option α := if i < 0 ∨ n ≤ i.toNatClampNeg then none else f i.toNatClampNeg
def mh_dv {α : Type} (y : Int32) (f : Option α) : Option α := if y = 0 then none else f
def mh_dvl {α : Type} (y : Int64) (f : Option α) : Option α := if y = 0 then none else f
def mh_b {α β : Type} (x : α) (f : α → β) : β := f x
def mh_j {τ β : Type} (f : τ) (g : τ → β) : β := g f
def mh_fuel : Nat := 100000
abbrev mh_rem (x y : Int32) : Int32 := x - x / y * y
abbrev mh_reml (x y : Int64) : Int64 := x - x / y * y
abbrev mh_ushr (x y : Int32) : Int32 := (x.toUInt32 >>> (y.toUInt32 &&& Int32.toUInt32 31)).toInt32
abbrev mh_ushrl (x : Int64) (y : Int32) : Int64 := (x.toUInt64 >>> (y.toInt64.toUInt64 &&& Int64.toUInt64 63)).toInt64
theorem mh_ix_some {α : Type} {i : Int32} {n : Nat} {f : Nat → Option α} {r : α} (h : mh_ix i n f = some r) : ∃ k : Nat, k = i.toNatClampNeg ∧ ¬ (i < 0 ∨ n ≤ i.toNatClampNeg) ∧ k < n ∧ f k = some r := by
  unfold mh_ix at h
  by_cases hc : i < 0 ∨ n ≤ i.toNatClampNeg
  · rw [if_pos hc] at h; cases h
  · rw [if_neg hc] at h
    exact ⟨_, rfl, hc, by omega, h⟩
theorem mh_dv_some {α : Type} {y : Int32} {f : Option α} {r : α} (h : mh_dv y f = some r) : ¬ y = 0 ∧ f = some r := by
  unfold mh_dv at h
  by_cases hc : y = 0
  · rw [if_pos hc] at h; cases h
  · rw [if_neg hc] at h; exact ⟨hc, h⟩
theorem mh_dvl_some {α : Type} {y : Int64} {f : Option α} {r : α} (h : mh_dvl y f = some r) : ¬ y = 0 ∧ f = some r := by
  unfold mh_dvl at h
  by_cases hc : y = 0
  · rw [if_pos hc] at h; cases h
  · rw [if_neg hc] at h; exact ⟨hc, h⟩
theorem mh_b_some {α β : Type} {x : α} {f : α → Option β} {r : β} (h : mh_b x f = some r) : ∃ y, x = y ∧ f y = some r := ⟨x, rfl, h⟩
theorem mh_bind {α β : Type} {o : Option α} {f : α → Option β} {r : β} (h : o.bind f = some r) : ∃ q, o = some q ∧ f q = some r := by
  cases o with
  | none => cases h
  | some q => exact ⟨q, rfl, h⟩
theorem mh_ifp {α : Type} {c : Prop} {_ : Decidable c} {a b : Option α} {r : α} (hc : c) (h : (if c then a else b) = some r) : a = some r := by rw [if_pos hc] at h; exact h
theorem mh_ifn {α : Type} {c : Prop} {_ : Decidable c} {a b : Option α} {r : α} (hc : ¬ c) (h : (if c then a else b) = some r) : b = some r := by rw [if_neg hc] at h; exact h
theorem mh_jw {τ β : Type} {f : τ} {g : τ → Option β} {r : β} {Goal : Prop} (P : τ → Prop) (h : mh_j f g = some r) (hf : P f) (k : ∀ J, P J → g J = some r → Goal) : Goal := k f hf h
theorem mh_ne {x v : Int32} {n : Int} (h : ¬ x = v) (hv : v.toInt = n) : x.toInt ≠ n := fun e => h (Int32.toInt_inj.mp (e.trans hv.symm))
def mh_rm (d : Nat) : Room := { frames := d, cells := 0, slots := 0, locals := 40 * d }
def mh_ret (r : Option Value) (sh : List mh_C) (I : mh_I) (L : mh_L) : mh_P := fun r1 s1 I1 L1 => r1 = r ∧ s1 = sh ∧ I1 = I ∧ L1 = L
def mh_retz (q : Int32) (sh : List mh_C) (I : mh_I) (L : mh_L) : mh_P := fun r1 s1 I1 L1 => (r1 = some (.int q) ∧ s1 = sh ∧ I1 = I ∧ L1 = L) ∧ (q = 0 ∨ q = 1)
theorem mh_nz {q : Int32} (h : q = 0 ∨ q = 1) : narrow .boolean (.int q) = .int q := by
  rcases h with rfl | rfl <;> rfl
def mh_cpy (I : mh_I) (a0 a1 sp dp n : Nat) : mh_I := fun b => if b = a1 then va_cpy (I a0) (I a1) sp dp n else I b
section MH9
variable {own : String} {cc : ByteArray} {nL : Nat} {rt : Option FieldType} {ini : Bool} {R : Room} {n0 mc ms : Nat} {Ex : mh_X} {Φ : mh_P} {slots : Nat} {sh : List mh_C} {I : mh_I} {L : mh_L} {pc : Nat} {lv : List (Nat × Value)} {st : List Value}
theorem mw_lsub {x y : Int64} (hd : decode cc pc = .ok (.lsub, 1)) (k : mh_W own cc nL rt ini R n0 mc ms Ex Φ slots sh I L (pc + 1) lv (.long (x - y) :: st)) : mh_W own cc nL rt ini R n0 mc ms Ex Φ slots sh I L pc lv (.long y :: .long x :: st) := by
  intro p l e s m args below meth c D ad A cA H locs ls K S
  exact lv_lsub K.x K.b hd (k p l e s m args below meth c D ad A cA H locs ls K S)
theorem mw_iushr {x y : Int32} (hd : decode cc pc = .ok (.iushr, 1)) (k : mh_W own cc nL rt ini R n0 mc ms Ex Φ slots sh I L (pc + 1) lv (.int (mh_ushr x y) :: st)) : mh_W own cc nL rt ini R n0 mc ms Ex Φ slots sh I L pc lv (.int y :: .int x :: st) := by
  intro p l e s m args below meth c D ad A cA H locs ls K S
  exact lv_iushr K.x K.b hd rfl (k p l e s m args below meth c D ad A cA H locs ls K S)
theorem mw_lushr {x : Int64} {y : Int32} (hd : decode cc pc = .ok (.lushr, 1)) (k : mh_W own cc nL rt ini R n0 mc ms Ex Φ slots sh I L (pc + 1) lv (.long (mh_ushrl x y) :: st)) : mh_W own cc nL rt ini R n0 mc ms Ex Φ slots sh I L pc lv (.int y :: .long x :: st) := by
  intro p l e s m args below meth c D ad A cA H locs ls K S
  exact lv_lushr K.x K.b hd rfl (k p l e s m args below meth c D ad A cA H locs ls K S)
theorem mw_l2i {x : Int64} (hd : decode cc pc = .ok (.l2i, 1)) (k : mh_W own cc nL rt ini R n0 mc ms Ex Φ slots sh I L (pc + 1) lv (.int (x.toInt32) :: st)) : mh_W own cc nL rt ini R n0 mc ms Ex Φ slots sh I L pc lv (.long x :: st) := by
  intro p l e s m args below meth c D ad A cA H locs ls K S
  exact lv_l2i K.x K.b hd rfl (k p l e s m args below meth c D ad A cA H locs ls K S)
theorem mw_ldcw {index : Nat} {v : Int32} (hd : decode cc pc = .ok (.ldc_w index, 3)) (hw : Cond.constant own index v ∈ mh_TB) (k : mh_W own cc nL rt ini R n0 mc ms Ex Φ slots sh I L (pc + 3) lv (.int v :: st)) : mh_W own cc nL rt ini R n0 mc ms Ex Φ slots sh I L pc lv st := by
  intro p l e s m args below meth c D ad A cA H locs ls K S
  exact lv_ldcw K.x K.b K.hown (K.tb _ hw) hd (k p l e s m args below meth c D ad A cA H locs ls K S)
/-- a name for what lies on top -/
theorem mw_nmi {x v : Int32} (e : x = v) (k : mh_W own cc nL rt ini R n0 mc ms Ex Φ slots sh I L pc lv (.int v :: st)) : mh_W own cc nL rt ini R n0 mc ms Ex Φ slots sh I L pc lv (.int x :: st) := e ▸ k
theorem mw_nml {x v : Int64} (e : x = v) (k : mh_W own cc nL rt ini R n0 mc ms Ex Φ slots sh I L pc lv (.long v :: st)) : mh_W own cc nL rt ini R n0 mc ms Ex Φ slots sh I L pc lv (.long x :: st) := e ▸ k
theorem mw_xiald {a n kx : Nat} {r : Nat → Option Nat} {i : Int32} (hd : decode cc pc = .ok (.iaload, 1)) (hs : sh[a]? = some (.inr (0, n, r))) (hk : kx = i.toNatClampNeg) (hin : ¬ (i < 0 ∨ n ≤ i.toNatClampNeg)) (kk : mh_W own cc nL rt ini R n0 mc ms Ex Φ slots sh I L (pc + 1) lv (.int (I a kx) :: st)) : mh_W own cc nL rt ini R n0 mc ms Ex Φ slots sh I L pc lv (.int i :: .ref a :: st) := by
  subst hk; exact mw_iald hd hs hin kk
theorem mw_xlald {a n kx : Nat} {r : Nat → Option Nat} {i : Int32} (hd : decode cc pc = .ok (.laload, 1)) (hs : sh[a]? = some (.inr (1, n, r))) (hk : kx = i.toNatClampNeg) (hin : ¬ (i < 0 ∨ n ≤ i.toNatClampNeg)) (kk : mh_W own cc nL rt ini R n0 mc ms Ex Φ slots sh I L (pc + 1) lv (.long (L a kx) :: st)) : mh_W own cc nL rt ini R n0 mc ms Ex Φ slots sh I L pc lv (.int i :: .ref a :: st) := by
  subst hk; exact mw_lald hd hs hin kk
theorem mw_xiast {a n kx : Nat} {r : Nat → Option Nat} {i x : Int32} (hd : decode cc pc = .ok (.iastore, 1)) (hs : sh[a]? = some (.inr (0, n, r))) (hk : kx = i.toNatClampNeg) (hin : ¬ (i < 0 ∨ n ≤ i.toNatClampNeg)) (kk : mh_W own cc nL rt ini R n0 mc ms Ex Φ slots sh (mh_u I a kx x) L (pc + 1) lv st) : mh_W own cc nL rt ini R n0 mc ms Ex Φ slots sh I L pc lv (.int x :: .int i :: .ref a :: st) := by
  subst hk; exact mw_iast hd hs hin kk
theorem mw_xlast {a n kx : Nat} {r : Nat → Option Nat} {i : Int32} {x : Int64} (hd : decode cc pc = .ok (.lastore, 1)) (hs : sh[a]? = some (.inr (1, n, r))) (hk : kx = i.toNatClampNeg) (hin : ¬ (i < 0 ∨ n ≤ i.toNatClampNeg)) (kk : mh_W own cc nL rt ini R n0 mc ms Ex Φ slots sh I (mh_ul L a kx x) (pc + 1) lv st) : mh_W own cc nL rt ini R n0 mc ms Ex Φ slots sh I L pc lv (.long x :: .int i :: .ref a :: st) := by
  subst hk; exact mw_last hd hs hin kk
theorem mw_xaald {a n t b kx : Nat} {r : Nat → Option Nat} {i : Int32} (hd : decode cc pc = .ok (.aaload, 1)) (hs : sh[a]? = some (.inr (t + 3, n, r))) (hk : kx = i.toNatClampNeg) (hin : ¬ (i < 0 ∨ n ≤ i.toNatClampNeg)) (hb : r kx = some b) (kk : mh_W own cc nL rt ini R n0 mc ms Ex Φ slots sh I L (pc + 1) lv (.ref b :: st)) : mh_W own cc nL rt ini R n0 mc ms Ex Φ slots sh I L pc lv (.int i :: .ref a :: st) := by
  subst hk; exact mw_aald hd hs hin hb kk
variable {d dc index n ci b : Nat} {y : MethodName} {bytes : ByteArray} {maxL : Nat} {ret : Option FieldType} {fs : List mh_F} {T : u_T} {N : Nat} {sh1 : List mh_C} {I1 : mh_I} {L1 : mh_L}
theorem mh_rm_ok (h : dc < d ∧ maxL ≤ 21) : (mh_rm dc).frames + 1 ≤ (mh_rm d).frames ∧ 8 + (maxL + 11) + (mh_rm dc).locals ≤ (mh_rm d).locals := by
  have h1 := h.1
  have h2 := h.2
  refine ⟨h1, ?_⟩
  show 8 + (maxL + 11) + 40 * dc ≤ 40 * d
  omega
theorem mw_vr {v : Value} (q : mh_cv own index y n) (hcode : Cond.code y bytes maxL ret ∈ mh_TB) (hd : decode cc pc = .ok (.invokevirtual index, 3)) (As : List Value) (stk : List Value) (hstk : stk = As.reverse ++ .ref b :: st) (hn : As.length = n) (hs : sh[b]? = some (.inl (ci, fs))) (hci : vwCl[ci]? = some (y.cls, T, N))
    (hC : mh_CT y bytes maxL ret (mh_rm dc) sh I L (.ref b :: As) (mh_ret (some v) sh1 I1 L1)) (hR : dc < d ∧ maxL ≤ 21) (hrest : (st.map fun v => v.category).sum ≤ 8) (hz : sh.length = n0 ∧ sh1.length = n0) (kk : mh_W own cc nL rt ini (mh_rm d) n0 0 0 Ex Φ 0 sh1 I1 L1 (pc + 3) lv (v :: st)) : mh_W own cc nL rt ini (mh_rm d) n0 0 0 Ex Φ 0 sh I L pc lv stk :=
  mw_callV q hcode hd As stk hstk hn hs hci hC (mh_rm_ok hR) hrest ⟨by rw [hz.1, Nat.sub_self]; exact Nat.le_refl 0, Nat.le_refl 0⟩ (fun r s1 J1 K1 hφ => by obtain ⟨rfl, rfl, rfl, rfl⟩ := hφ; exact ⟨by rw [hz.1, hz.2]; rfl, kk⟩)
theorem mw_vv (q : mh_cv own index y n) (hcode : Cond.code y bytes maxL ret ∈ mh_TB) (hd : decode cc pc = .ok (.invokevirtual index, 3)) (As : List Value) (stk : List Value) (hstk : stk = As.reverse ++ .ref b :: st) (hn : As.length = n) (hs : sh[b]? = some (.inl (ci, fs))) (hci : vwCl[ci]? = some (y.cls, T, N))
    (hC : mh_CT y bytes maxL ret (mh_rm dc) sh I L (.ref b :: As) (mh_ret none sh1 I1 L1)) (hR : dc < d ∧ maxL ≤ 21) (hrest : (st.map fun v => v.category).sum ≤ 8) (hz : sh.length = n0 ∧ sh1.length = n0) (kk : mh_W own cc nL rt ini (mh_rm d) n0 0 0 Ex Φ 0 sh1 I1 L1 (pc + 3) lv st) : mh_W own cc nL rt ini (mh_rm d) n0 0 0 Ex Φ 0 sh I L pc lv stk :=
  mw_callV q hcode hd As stk hstk hn hs hci hC (mh_rm_ok hR) hrest ⟨by rw [hz.1, Nat.sub_self]; exact Nat.le_refl 0, Nat.le_refl 0⟩ (fun r s1 J1 K1 hφ => by obtain ⟨rfl, rfl, rfl, rfl⟩ := hφ; exact ⟨by rw [hz.1, hz.2]; rfl, kk⟩)
theorem mw_vz {v : Int32} (q : mh_cv own index y n) (hcode : Cond.code y bytes maxL ret ∈ mh_TB) (hd : decode cc pc = .ok (.invokevirtual index, 3)) (As : List Value) (stk : List Value) (hstk : stk = As.reverse ++ .ref b :: st) (hn : As.length = n) (hs : sh[b]? = some (.inl (ci, fs))) (hci : vwCl[ci]? = some (y.cls, T, N))
    (hC : mh_CT y bytes maxL ret (mh_rm dc) sh I L (.ref b :: As) (mh_retz v sh1 I1 L1)) (hR : dc < d ∧ maxL ≤ 21) (hrest : (st.map fun v => v.category).sum ≤ 8) (hz : sh.length = n0 ∧ sh1.length = n0) (kk : (v = 0 ∨ v = 1) → mh_W own cc nL rt ini (mh_rm d) n0 0 0 Ex Φ 0 sh1 I1 L1 (pc + 3) lv (.int v :: st)) : mh_W own cc nL rt ini (mh_rm d) n0 0 0 Ex Φ 0 sh I L pc lv stk :=
  mw_callV q hcode hd As stk hstk hn hs hci hC (mh_rm_ok hR) hrest ⟨by rw [hz.1, Nat.sub_self]; exact Nat.le_refl 0, Nat.le_refl 0⟩ (fun r s1 J1 K1 hφ => by obtain ⟨⟨rfl, rfl, rfl, rfl⟩, hv⟩ := hφ; exact ⟨by rw [hz.1, hz.2]; rfl, kk hv⟩)
theorem mw_sr {v : Value} (q : mh_cs own index y n) (hcode : Cond.code y bytes maxL ret ∈ mh_TB) (hd : decode cc pc = .ok (.invokestatic index, 3)) (As : List Value) (stk : List Value) (hstk : stk = As.reverse ++ st) (hn : As.length = n)
    (hC : mh_CT y bytes maxL ret (mh_rm dc) sh I L As (mh_ret (some v) sh1 I1 L1)) (hR : dc < d ∧ maxL ≤ 21) (hrest : (st.map fun v => v.category).sum ≤ 8) (hz : sh.length = n0 ∧ sh1.length = n0) (kk : mh_W own cc nL rt ini (mh_rm d) n0 0 0 Ex Φ 0 sh1 I1 L1 (pc + 3) lv (v :: st)) : mh_W own cc nL rt ini (mh_rm d) n0 0 0 Ex Φ 0 sh I L pc lv stk :=
  mw_callS q hcode hd As stk hstk hn hC (mh_rm_ok hR) hrest ⟨by rw [hz.1, Nat.sub_self]; exact Nat.le_refl 0, Nat.le_refl 0⟩ (fun r s1 J1 K1 hφ => by obtain ⟨rfl, rfl, rfl, rfl⟩ := hφ; exact ⟨by rw [hz.1, hz.2]; rfl, kk⟩)
theorem mw_sv (q : mh_cs own index y n) (hcode : Cond.code y bytes maxL ret ∈ mh_TB) (hd : decode cc pc = .ok (.invokestatic index, 3)) (As : List Value) (stk : List Value) (hstk : stk = As.reverse ++ st) (hn : As.length = n)
    (hC : mh_CT y bytes maxL ret (mh_rm dc) sh I L As (mh_ret none sh1 I1 L1)) (hR : dc < d ∧ maxL ≤ 21) (hrest : (st.map fun v => v.category).sum ≤ 8) (hz : sh.length = n0 ∧ sh1.length = n0) (kk : mh_W own cc nL rt ini (mh_rm d) n0 0 0 Ex Φ 0 sh1 I1 L1 (pc + 3) lv st) : mh_W own cc nL rt ini (mh_rm d) n0 0 0 Ex Φ 0 sh I L pc lv stk :=
  mw_callS q hcode hd As stk hstk hn hC (mh_rm_ok hR) hrest ⟨by rw [hz.1, Nat.sub_self]; exact Nat.le_refl 0, Nat.le_refl 0⟩ (fun r s1 J1 K1 hφ => by obtain ⟨rfl, rfl, rfl, rfl⟩ := hφ; exact ⟨by rw [hz.1, hz.2]; rfl, kk⟩)
theorem mw_sz {v : Int32} (q : mh_cs own index y n) (hcode : Cond.code y bytes maxL ret ∈ mh_TB) (hd : decode cc pc = .ok (.invokestatic index, 3)) (As : List Value) (stk : List Value) (hstk : stk = As.reverse ++ st) (hn : As.length = n)
    (hC : mh_CT y bytes maxL ret (mh_rm dc) sh I L As (mh_retz v sh1 I1 L1)) (hR : dc < d ∧ maxL ≤ 21) (hrest : (st.map fun v => v.category).sum ≤ 8) (hz : sh.length = n0 ∧ sh1.length = n0) (kk : (v = 0 ∨ v = 1) → mh_W own cc nL rt ini (mh_rm d) n0 0 0 Ex Φ 0 sh1 I1 L1 (pc + 3) lv (.int v :: st)) : mh_W own cc nL rt ini (mh_rm d) n0 0 0 Ex Φ 0 sh I L pc lv stk :=
  mw_callS q hcode hd As stk hstk hn hC (mh_rm_ok hR) hrest ⟨by rw [hz.1, Nat.sub_self]; exact Nat.le_refl 0, Nat.le_refl 0⟩ (fun r s1 J1 K1 hφ => by obtain ⟨⟨rfl, rfl, rfl, rfl⟩, hv⟩ := hφ; exact ⟨by rw [hz.1, hz.2]; rfl, kk hv⟩)
theorem mw_tr {v : Value} {i : Nat} (hi : i < 5) (q : mh_cv own index y n) (hcode : Cond.code y bytes maxL ret ∈ mh_TB) (hd : decode cc pc = .ok (.invokevirtual index, 3)) (As : List Value) (stk : List Value) (hstk : stk = As.reverse ++ .ref (1000 + i) :: st) (hn : As.length = n) (hyc : y.cls = "java/lang/String")
    (hC : mh_CT y bytes maxL ret (mh_rm dc) sh I L (.ref (1000 + i) :: As) (mh_ret (some v) sh1 I1 L1)) (hR : dc < d ∧ maxL ≤ 21) (hrest : (st.map fun v => v.category).sum ≤ 8) (hz : sh.length = n0 ∧ sh1.length = n0) (kk : mh_W own cc nL rt ini (mh_rm d) n0 0 0 Ex Φ 0 sh1 I1 L1 (pc + 3) lv (v :: st)) : mh_W own cc nL rt ini (mh_rm d) n0 0 0 Ex Φ 0 sh I L pc lv stk :=
  mw_callVS hi q hcode hd As stk hstk hn hyc hC (mh_rm_ok hR) hrest ⟨by rw [hz.1, Nat.sub_self]; exact Nat.le_refl 0, Nat.le_refl 0⟩ (fun r s1 J1 K1 hφ => by obtain ⟨rfl, rfl, rfl, rfl⟩ := hφ; exact ⟨by rw [hz.1, hz.2]; rfl, kk⟩)
theorem mw_tz {v : Int32} {i : Nat} (hi : i < 5) (q : mh_cv own index y n) (hcode : Cond.code y bytes maxL ret ∈ mh_TB) (hd : decode cc pc = .ok (.invokevirtual index, 3)) (As : List Value) (stk : List Value) (hstk : stk = As.reverse ++ .ref (1000 + i) :: st) (hn : As.length = n) (hyc : y.cls = "java/lang/String")
    (hC : mh_CT y bytes maxL ret (mh_rm dc) sh I L (.ref (1000 + i) :: As) (mh_retz v sh1 I1 L1)) (hR : dc < d ∧ maxL ≤ 21) (hrest : (st.map fun v => v.category).sum ≤ 8) (hz : sh.length = n0 ∧ sh1.length = n0) (kk : (v = 0 ∨ v = 1) → mh_W own cc nL rt ini (mh_rm d) n0 0 0 Ex Φ 0 sh1 I1 L1 (pc + 3) lv (.int v :: st)) : mh_W own cc nL rt ini (mh_rm d) n0 0 0 Ex Φ 0 sh I L pc lv stk :=
  mw_callVS hi q hcode hd As stk hstk hn hyc hC (mh_rm_ok hR) hrest ⟨by rw [hz.1, Nat.sub_self]; exact Nat.le_refl 0, Nat.le_refl 0⟩ (fun r s1 J1 K1 hφ => by obtain ⟨⟨rfl, rfl, rfl, rfl⟩, hv⟩ := hφ; exact ⟨by rw [hz.1, hz.2]; rfl, kk hv⟩)
theorem mw_zret {v : Int32} (hd : decode cc pc = .ok (.ireturn, 1)) (hr : rt = some .boolean) (hv : v = 0 ∨ v = 1) (hc : sh.length - n0 ≤ mc) (hsl : slots ≤ ms) (hq : Φ (some (.int v)) sh I L) : mh_W own cc nL rt ini R n0 mc ms Ex Φ slots sh I L pc lv [.int v] := mw_iret hd hr (mh_nz hv) hc hsl hq
end MH9
/-! the shapes of the two objects with all that they hold -/
def mh_n : Nat → Option Nat := fun _ => none
abbrev fsX0 (a : Nat) : List mh_F := [.inr (some (a + 1)), .inl 1, .inl 1]
abbrev fsX1 (a : Nat) : List mh_F := [.inr (some (a + 1)), .inr (some (a + 2)), .inl 1, .inl 1, .inl 0]
abbrev fsX2 (a : Nat) : List mh_F := [.inr (some (a + 1)), .inl 0, .inl 0]
abbrev fsX3 (a : Nat) (into : Option Nat) : List mh_F := [.inr (some (a + 1)), .inl 0, .inl 0, .inl 0, .inl 0, .inl 0, .inr into]
abbrev fsX4 (a : Nat) : List mh_F := [.inr (some (a + 1)), .inl 0, .inr (some (a + 2)), .inr (some (a + 3)), .inl 0]
abbrev fsX5 : List mh_F := [.inr (some 1), .inr (some 4), .inl 0, .inr (some 7), .inr (some 9), .inl 0, .inr (some 10), .inr (some 12), .inr (some 13)]
abbrev mh_row (n : Nat) : mh_C := .inr (0, n, mh_n)
def mh_rT : Nat → Option Nat := fun k => if k < 6 then some (14 + 4 * k) else none
def mh_rS : Nat → Option Nat := fun k => if k < 4 then some (38 + 2 * k) else none
abbrev mh_tx4 (a : Nat) : List mh_C := [.inl (4, fsX4 a), mh_row 160, mh_row 3, mh_row 40]
abbrev mh_sh2 (a : Nat) : List mh_C := [.inl (2, fsX2 a), mh_row 48]
def SHX (into : Option Nat) : List mh_C :=
  [.inl (5, fsX5), .inl (1, fsX1 1), mh_row 48, mh_row 48, .inl (1, fsX1 4), mh_row 48, mh_row 48, .inl (3, fsX3 7 into), mh_row 160, .inr (4, 6, mh_rT), .inl (0, fsX0 10), mh_row 48, .inr (3, 4, mh_rS), .inr (1, 48, mh_n),
   .inl (4, fsX4 14), mh_row 160, mh_row 3, mh_row 40, .inl (4, fsX4 18), mh_row 160, mh_row 3, mh_row 40, .inl (4, fsX4 22), mh_row 160, mh_row 3, mh_row 40, .inl (4, fsX4 26), mh_row 160, mh_row 3, mh_row 40, .inl (4, fsX4 30), mh_row 160, mh_row 3, mh_row 40, .inl (4, fsX4 34), mh_row 160, mh_row 3, mh_row 40,
   .inl (2, fsX2 38), mh_row 48, .inl (2, fsX2 40), mh_row 48, .inl (2, fsX2 42), mh_row 48, .inl (2, fsX2 44), mh_row 48]
theorem SHX_len (into : Option Nat) : (SHX into).length = 46 := rfl
def hs_X0 (sh : List mh_C) (a : Nat) : Prop := sh[a]? = some (.inl (0, fsX0 a)) ∧ sh[a + 1]? = some (mh_row 48)
def hs_X1 (sh : List mh_C) (a : Nat) : Prop := sh[a]? = some (.inl (1, fsX1 a)) ∧ sh[a + 1]? = some (mh_row 48) ∧ sh[a + 2]? = some (mh_row 48)
def hs_X2 (sh : List mh_C) (a : Nat) : Prop := sh[a]? = some (.inl (2, fsX2 a)) ∧ sh[a + 1]? = some (mh_row 48)
def hs_X4 (sh : List mh_C) (a : Nat) : Prop := sh[a]? = some (.inl (4, fsX4 a)) ∧ sh[a + 1]? = some (mh_row 160) ∧ sh[a + 2]? = some (mh_row 3) ∧ sh[a + 3]? = some (mh_row 40)
theorem sx_fall (into : Option Nat) : hs_X0 (SHX into) 10 := ⟨rfl, rfl⟩
theorem sx_piece (into : Option Nat) : hs_X1 (SHX into) 1 := ⟨rfl, rfl, rfl⟩
theorem sx_kept (into : Option Nat) : hs_X1 (SHX into) 4 := ⟨rfl, rfl, rfl⟩
theorem sx_text (into : Option Nat) {k : Nat} (h : k < 6) : hs_X4 (SHX into) (14 + 4 * k) := by
  rcases (show k = 0 ∨ k = 1 ∨ k = 2 ∨ k = 3 ∨ k = 4 ∨ k = 5 by omega) with rfl | rfl | rfl | rfl | rfl | rfl <;> exact ⟨rfl, rfl, rfl, rfl⟩
theorem sx_sheet (into : Option Nat) {k : Nat} (h : k < 4) : hs_X2 (SHX into) (38 + 2 * k) := by
  rcases (show k = 0 ∨ k = 1 ∨ k = 2 ∨ k = 3 by omega) with rfl | rfl | rfl | rfl <;> exact ⟨rfl, rfl⟩
theorem sx_rT {k : Nat} (h : k < 6) : mh_rT k = some (14 + 4 * k) := if_pos h
theorem sx_rS {k : Nat} (h : k < 4) : mh_rS k = some (38 + 2 * k) := if_pos h
theorem mh_ret_rfl {r : Option Value} {sh : List mh_C} {I : mh_I} {L : mh_L} : mh_ret r sh I L r sh I L := ⟨rfl, rfl, rfl, rfl⟩
theorem mh_retz_rfl {q : Int32} {sh : List mh_C} {I : mh_I} {L : mh_L} (h : q = 0 ∨ q = 1) : mh_retz q sh I L (some (.int q)) sh I L := ⟨⟨rfl, rfl, rfl, rfl⟩, h⟩
theorem sx_T4 {T1 T2 : Option Nat} {a : Nat} (h : hs_X4 (SHX T1) a) : hs_X4 (SHX T2) a := by
  have key : ∀ (b : Nat) (x : mh_C), (SHX T1)[b]? = some x → (∀ fs, x ≠ .inl (3, fs)) → (SHX T2)[b]? = some x := by
    intro b x hb hx
    have e : SHX T2 = (SHX T1).set 7 (.inl (3, fsX3 7 T2)) := rfl
    by_cases h7 : b = 7
    · subst h7
      have : (SHX T1)[7]? = some (.inl (3, fsX3 7 T1)) := rfl
      rw [this] at hb
      exact absurd (Option.some.inj hb).symm (hx _)
    · rw [e, List.getElem?_set_ne (Ne.symm h7)]
      exact hb
  exact ⟨key _ _ h.1 (fun fs e => by cases e), key _ _ h.2.1 (fun fs e => by cases e), key _ _ h.2.2.1 (fun fs e => by cases e), key _ _ h.2.2.2 (fun fs e => by cases e)⟩
def mh_max (x y : Int32) : Int32 := if x < y then y else x
def mh_min (x y : Int32) : Int32 := if y < x then y else x
section MH10
variable {own : String} {cc : ByteArray} {nL : Nat} {rt : Option FieldType} {ini : Bool} {n0 : Nat} {Ex : mh_X} {Φ : mh_P} {sh : List mh_C} {I : mh_I} {L : mh_L} {pc : Nat} {lv : List (Nat × Value)} {st : List Value} {d index : Nat} {x y : Int32}
theorem mw_mmax (hl : Cond.methodLink own index yJ9_max_7cf53 ∈ mh_TB) (hw : Cond.static yJ9_max_7cf53 ∈ mh_TB ∧ Cond.initialized RJ9 ∈ mh_TB ∧ Cond.code yJ9_max_7cf53 cJ9_max_7cf53 2 (some .int) ∈ mh_TB) (hd : decode cc pc = .ok (.invokestatic index, 3)) (h1 : 0 < d) (hrest : (st.map fun v => v.category).sum ≤ 8) (hz : sh.length - n0 ≤ 0) (kk : mh_W own cc nL rt ini (mh_rm d) n0 0 0 Ex Φ 0 sh I L (pc + 3) lv (.int (mh_max x y) :: st)) : mh_W own cc nL rt ini (mh_rm d) n0 0 0 Ex Φ 0 sh I L pc lv (.int y :: .int x :: st) := by
  intro p l e s m args below meth c D ad A cA H locs ls K S
  exact va_mmax K.x K.b (K.ml.trans S.hlv.1.symm) K.hown (K.tb _ hl) (K.tb _ hw.1) (K.tb _ hw.2.1) (K.tb _ hw.2.2) (R := mh_rm d) (show 1 ≤ d from h1) (by rw [mh_cats]; show _ + 13 ≤ 40 * d; omega) hz (Nat.le_refl 0) hd (kk p l e s m args below meth c D ad A cA H locs ls K S)
theorem mw_mmin (hl : Cond.methodLink own index yJ9_min_7cf53 ∈ mh_TB) (hw : Cond.static yJ9_min_7cf53 ∈ mh_TB ∧ Cond.initialized RJ9 ∈ mh_TB ∧ Cond.code yJ9_min_7cf53 cJ9_min_7cf53 2 (some .int) ∈ mh_TB) (hd : decode cc pc = .ok (.invokestatic index, 3)) (h1 : 0 < d) (hrest : (st.map fun v => v.category).sum ≤ 8) (hz : sh.length - n0 ≤ 0) (kk : mh_W own cc nL rt ini (mh_rm d) n0 0 0 Ex Φ 0 sh I L (pc + 3) lv (.int (mh_min x y) :: st)) : mh_W own cc nL rt ini (mh_rm d) n0 0 0 Ex Φ 0 sh I L pc lv (.int y :: .int x :: st) := by
  intro p l e s m args below meth c D ad A cA H locs ls K S
  exact va_mmin K.x K.b (K.ml.trans S.hlv.1.symm) K.hown (K.tb _ hl) (K.tb _ hw.1) (K.tb _ hw.2.1) (K.tb _ hw.2.2) (R := mh_rm d) (show 1 ≤ d from h1) (by rw [mh_cats]; show _ + 13 ≤ 40 * d; omega) hz (Nat.le_refl 0) hd (kk p l e s m args below meth c D ad A cA H locs ls K S)
end MH10
