/-! THE LAW: its judgement. The class's mini heap and the reference's lie side by side; the refs 900, 901 are the two objects, 1002 the script. -/
def R_law : String := "StitchLetFallLaw"
def lw_Q (_ : Array Value) (s : State) (o : Outcome) (t : State) : Prop := o = .returned (some (.int 1)) ∧ Framed s o t [] 600000 7302250
def lw_Z (below : List Frame) (a : Array Value) (s : State) : State → Prop := fun t => ∃ o, t.status = .running ∧ Ended t below o ∧ lw_Q a s o t
theorem lw_ret {p : Program} {l : Launch} {e : Env} {s : State} {m : MethodId} {below : List Frame} {meth : Method} {c : Code} {b : Nat} (hx : p.tables.exec = Jvm.exec) (hb : c.code = code) (hr : meth.sig.returnType = ret) (hlocks : meth.locks = false) {pc : Nat} {H : Heap} {ls : Array Slot} (hdg : decode code pc = .ok (.ireturn, 1)) : W p l e room_1 s m #[Value.ref b] below meth c H [] 600000 7302250 (lw_Z below #[Value.ref b] s) (F0 m pc ls [.int 1]) := by
  intro T hT X
  obtain ⟨fs, hret, hrun, hended, hW, hframe⟩ := X.leave (v := some (.int 1)) (hlocks := hlocks) (fun h => by rw [hr] at h; cases h)
  have hmeth' : T.vm.method? m = some meth := X.method'
  refine ⟨T.setFrames fs, ?_, .returned (some (.int 1)), hrun, hended, rfl, ⟨_, rfl⟩, hW, hframe⟩
  jvm_step X.here [X.here.top, hx, hb, hdg, hmeth', hr, ret, narrow_b1]
  (try refine ⟨rfl, ?_⟩); (try refine ⟨rfl, ?_⟩)
  first | (intro acts; rw [hret _ acts rfl rfl rfl]) | rw [hret _ _ rfl rfl rfl]
  exact Steps.refl _
def ml_K (L0 : Nat) (xs : Nat → Int32) (p : Program) (s : State) (m : MethodId) (meth : Method) (c : Code) (b : Nat) (ad : Nat → Nat) (A : Nat → Prop) : Prop :=
  p.tables.exec = Jvm.exec ∧ c.code = code ∧ c.maxLocals = 4 ∧ meth.sig.returnType = ret ∧ meth.locks = false ∧ s.vm.findClass RL = some m.cls ∧ (∀ w ∈ mh_TB, w.before #[Value.ref b] s = true) ∧ mh_E A ad s ∧ (∀ q : Nat, A q ↔ s.heap.size ≤ q) ∧ va_X b L0 xs s s.heap ∧ b < s.heap.size ∧ ad 1002 = b
def ml_B (D : va_G) (ad : Nat → Nat) (A : Nat → Prop) (ad1 ad2 : Nat → Nat) (cA1 cA2 : Nat → ClassId) (T : Option Nat) (I1 : mh_I) (L1 : mh_L) (I2 : mh_I) (L2 : mh_L) (H : Heap) (s : State) : Prop :=
  va_P D vwCl (mh_ws ad1 cA1 (SHX T) I1 L1 ++ mh_ws ad2 cA2 SHM I2 L2) H ∧ va_D A (mh_ws ad1 cA1 (SHX T) I1 L1 ++ mh_ws ad2 cA2 SHM I2 L2) ∧ va_K D vwCl [] s ∧
  (∀ (a t n : Nat) (r : Nat → Option Nat), (SHX T)[a]? = some (.inr (t, n, r)) → va_K D vwCl [(cA1 a, mh_ty t)] s) ∧ (∀ (a t n : Nat) (r : Nat → Option Nat), SHM[a]? = some (.inr (t, n, r)) → va_K D vwCl [(cA2 a, mh_ty t)] s) ∧ ad 900 = ad1 0 ∧ ad 901 = ad2 0
def ml_S (s : State) (D : va_G) (ad : Nat → Nat) (A : Nat → Prop) (T : Option Nat) (I1 : mh_I) (L1 : mh_L) (I2 : mh_I) (L2 : mh_L) (lv : List (Nat × Value)) (H : Heap) (locs : List Loc) (ls : Array Slot) : Prop :=
  (∃ (ad1 ad2 : Nat → Nat) (cA1 cA2 : Nat → ClassId), ml_B D ad A ad1 ad2 cA1 cA2 T I1 L1 I2 L2 H s) ∧ va_S A s.heap H locs ∧ lv_has ls 4 (lv.map (fun q => (q.1, mh_v ad q.2))) ∧ ∀ t, T = some t → t < 46
def ml_W (L0 : Nat) (xs : Nat → Int32) (T : Option Nat) (I1 : mh_I) (L1 : mh_L) (I2 : mh_I) (L2 : mh_L) (pc : Nat) (lv : List (Nat × Value)) (st : List Value) : Prop :=
  ∀ (p : Program) (l : Launch) (e : Env) (s : State) (m : MethodId) (below : List Frame) (meth : Method) (c : Code) (b : Nat) (D : va_G) (ad : Nat → Nat) (A : Nat → Prop) (H : Heap) (locs : List Loc) (ls : Array Slot),
    ml_K L0 xs p s m meth c b ad A → ml_S s D ad A T I1 L1 I2 L2 lv H locs ls →
    W p l e room_1 s m #[Value.ref b] below meth c H locs 600000 7302250 (lw_Z below #[Value.ref b] s) (F0 m pc ls (st.map (mh_v ad)))
section ML0
variable {L0 : Nat} {xs : Nat → Int32} {p : Program} {s : State} {m : MethodId} {meth : Method} {c : Code} {b : Nat} {ad : Nat → Nat} {A : Nat → Prop} {D : va_G} {T : Option Nat} {I1 I2 : mh_I} {L1 L2 : mh_L} {lv lv' : List (Nat × Value)} {H : Heap} {locs : List Loc} {ls ls' : Array Slot}
theorem ml_K.x (K : ml_K L0 xs p s m meth c b ad A) : p.tables.exec = Jvm.exec := K.1
theorem ml_K.hb (K : ml_K L0 xs p s m meth c b ad A) : c.code = code := K.2.1
theorem ml_K.ml (K : ml_K L0 xs p s m meth c b ad A) : c.maxLocals = 4 := K.2.2.1
theorem ml_K.hrt (K : ml_K L0 xs p s m meth c b ad A) : meth.sig.returnType = ret := K.2.2.2.1
theorem ml_K.locks (K : ml_K L0 xs p s m meth c b ad A) : meth.locks = false := K.2.2.2.2.1
theorem ml_K.hown (K : ml_K L0 xs p s m meth c b ad A) : s.vm.findClass RL = some m.cls := K.2.2.2.2.2.1
theorem ml_K.tb (K : ml_K L0 xs p s m meth c b ad A) : ∀ w ∈ mh_TB, w.before #[Value.ref b] s = true := K.2.2.2.2.2.2.1
theorem ml_K.e (K : ml_K L0 xs p s m meth c b ad A) : mh_E A ad s := K.2.2.2.2.2.2.2.1
theorem ml_K.hA (K : ml_K L0 xs p s m meth c b ad A) : ∀ q : Nat, A q ↔ s.heap.size ≤ q := K.2.2.2.2.2.2.2.2.1
theorem ml_K.hX (K : ml_K L0 xs p s m meth c b ad A) : va_X b L0 xs s s.heap := K.2.2.2.2.2.2.2.2.2.1
theorem ml_K.hbl (K : ml_K L0 xs p s m meth c b ad A) : b < s.heap.size := K.2.2.2.2.2.2.2.2.2.2.1
theorem ml_K.hbA (K : ml_K L0 xs p s m meth c b ad A) : ¬ A b := fun h => absurd ((K.hA b).mp h) (Nat.not_le.mpr K.hbl)
theorem ml_K.had (K : ml_K L0 xs p s m meth c b ad A) : ad 1002 = b := K.2.2.2.2.2.2.2.2.2.2.2
theorem ml_S.S (S : ml_S s D ad A T I1 L1 I2 L2 lv H locs ls) : va_S A s.heap H locs := S.2.1
theorem ml_S.hlv (S : ml_S s D ad A T I1 L1 I2 L2 lv H locs ls) : lv_has ls 4 (lv.map (fun q => (q.1, mh_v ad q.2))) := S.2.2.1
theorem ml_S.lvs (S : ml_S s D ad A T I1 L1 I2 L2 lv H locs ls) (h : lv_has ls' 4 (lv'.map (fun q => (q.1, mh_v ad q.2)))) : ml_S s D ad A T I1 L1 I2 L2 lv' H locs ls' := ⟨S.1, S.2.1, h, S.2.2.2⟩
end ML0
section ML1
variable {L0 : Nat} {xs : Nat → Int32} {T : Option Nat} {I1 I2 : mh_I} {L1 L2 : mh_L} {pc : Nat} {lv : List (Nat × Value)} {st : List Value}
theorem ml_iadd {x y : Int32} (hd : decode code pc = .ok (.iadd, 1)) (k : ml_W L0 xs T I1 L1 I2 L2 (pc + 1) lv (.int (x + y) :: st)) : ml_W L0 xs T I1 L1 I2 L2 pc lv (.int y :: .int x :: st) := by
  intro p l e s m below meth c b D ad A H locs ls K S
  exact lv_iadd K.x K.hb hd (k p l e s m below meth c b D ad A H locs ls K S)
theorem ml_isub {x y : Int32} (hd : decode code pc = .ok (.isub, 1)) (k : ml_W L0 xs T I1 L1 I2 L2 (pc + 1) lv (.int (x - y) :: st)) : ml_W L0 xs T I1 L1 I2 L2 pc lv (.int y :: .int x :: st) := by
  intro p l e s m below meth c b D ad A H locs ls K S
  exact lv_isub K.x K.hb hd (k p l e s m below meth c b D ad A H locs ls K S)
theorem ml_iand {x y : Int32} (hd : decode code pc = .ok (.iand, 1)) (k : ml_W L0 xs T I1 L1 I2 L2 (pc + 1) lv (.int (x &&& y) :: st)) : ml_W L0 xs T I1 L1 I2 L2 pc lv (.int y :: .int x :: st) := by
  intro p l e s m below meth c b D ad A H locs ls K S
  exact lv_iand K.x K.hb hd (k p l e s m below meth c b D ad A H locs ls K S)
theorem ml_iconst {n : Int} {v : Int32} (hd : decode code pc = .ok (.iconst n, 1)) (hv : Int32.ofInt n = v) (k : ml_W L0 xs T I1 L1 I2 L2 (pc + 1) lv (.int v :: st)) : ml_W L0 xs T I1 L1 I2 L2 pc lv ( st) := by
  intro p l e s m below meth c b D ad A H locs ls K S
  exact lv_iconst K.x K.hb hd hv (k p l e s m below meth c b D ad A H locs ls K S)
theorem ml_bipush {n : Int} {v : Int32} (hd : decode code pc = .ok (.bipush n, 2)) (hv : (Int8.ofInt n).toInt32 = v) (k : ml_W L0 xs T I1 L1 I2 L2 (pc + 2) lv (.int v :: st)) : ml_W L0 xs T I1 L1 I2 L2 pc lv ( st) := by
  intro p l e s m below meth c b D ad A H locs ls K S
  exact lv_bipush K.x K.hb hd hv (k p l e s m below meth c b D ad A H locs ls K S)
theorem ml_lcmp {x y : Int64} (hd : decode code pc = .ok (.lcmp, 1)) (k : ml_W L0 xs T I1 L1 I2 L2 (pc + 1) lv (.int (lg_cmp x y) :: st)) : ml_W L0 xs T I1 L1 I2 L2 pc lv (.long y :: .long x :: st) := by
  intro p l e s m below meth c b D ad A H locs ls K S
  exact W.lcmp K.x K.hb hd (k p l e s m below meth c b D ad A H locs ls K S)
theorem ml_iload_n {k4 : Fin 4} {x : Int32} (hd : decode code pc = .ok (.iload_n k4, 1)) (j : Nat) (h : lv[j]? = some ((k4 : Nat), .int x)) (k : ml_W L0 xs T I1 L1 I2 L2 (pc + 1) lv (.int x :: st)) : ml_W L0 xs T I1 L1 I2 L2 pc lv st := by
  intro p l e s m below meth c b D ad A H locs ls K S
  exact lv_iload_n K.x K.hb hd rfl (mh_lv S.hlv j h) (k p l e s m below meth c b D ad A H locs ls K S)
theorem ml_aload_n {k4 : Fin 4} {x : Nat} (hd : decode code pc = .ok (.aload_n k4, 1)) (j : Nat) (h : lv[j]? = some ((k4 : Nat), .ref x)) (k : ml_W L0 xs T I1 L1 I2 L2 (pc + 1) lv (.ref x :: st)) : ml_W L0 xs T I1 L1 I2 L2 pc lv st := by
  intro p l e s m below meth c b D ad A H locs ls K S
  exact lv_aload_n K.x K.hb hd rfl (mh_lv S.hlv j h) (k p l e s m below meth c b D ad A H locs ls K S)
theorem ml_iinc {i : Nat} {n : Int} {x v : Int32} {lv' : List (Nat × Value)} (hd : decode code pc = .ok (.iinc i n, 3)) (j : Nat) (hj : lv[j]? = some (i, .int x)) (hv : x + Int32.ofInt n = v) (hn : i < 4) (hl : mh_st i (.int v) lv = lv') (k : ml_W L0 xs T I1 L1 I2 L2 (pc + 3) lv' st) : ml_W L0 xs T I1 L1 I2 L2 pc lv st := by
  intro p l e s m below meth c b D ad A H locs ls K S
  subst hl
  exact lv_iinc K.x K.hb hd S.hlv (mh_lvm ad j hj) hv hn (mh_st_map ad i (.int v) lv) (fun ls' h' => k p l e s m below meth c b D ad A H locs ls' K (S.lvs h'))
theorem ml_loc (ks : List Nat) {lv' : List (Nat × Value)} (hl : lv_pick lv ks = lv') (k : ml_W L0 xs T I1 L1 I2 L2 pc lv' st) : ml_W L0 xs T I1 L1 I2 L2 pc lv st := by
  intro p l e s m below meth c b D ad A H locs ls K S
  subst hl
  exact k p l e s m below meth c b D ad A H locs ls K (S.lvs (lv_sub S.hlv ks (mh_pick_map ad lv ks)))
theorem ml_goto {off : Int} {tgt : Nat} (hd : decode code pc = .ok (.goto off, 3)) (ht : (pc : Int) + off = (tgt : Int)) (k : ml_W L0 xs T I1 L1 I2 L2 tgt lv st) : ml_W L0 xs T I1 L1 I2 L2 pc lv st := by
  intro p l e s m below meth c b D ad A H locs ls K S
  exact lv_goto K.x K.hb hd ht (k p l e s m below meth c b D ad A H locs ls K S)
theorem ml_if_eq {x : Int32} {off : Int} {tgt : Nat} (hd : decode code pc = .ok (.ifCond .eq off, 3)) (ht : (pc : Int) + off = (tgt : Int)) (hx : x = 0) (k : ml_W L0 xs T I1 L1 I2 L2 tgt lv st) : ml_W L0 xs T I1 L1 I2 L2 pc lv (.int x :: st) := by
  intro p l e s m below meth c b D ad A H locs ls K S
  exact lv_if_eq K.x K.hb hd ht (fun _ => k p l e s m below meth c b D ad A H locs ls K S) (fun h => absurd hx h)
theorem ml_icmp_eq {x y : Int32} {off : Int} {tgt : Nat} (hd : decode code pc = .ok (.if_icmp .eq off, 3)) (ht : (pc : Int) + off = (tgt : Int)) (hx : x = y) (k : ml_W L0 xs T I1 L1 I2 L2 tgt lv st) : ml_W L0 xs T I1 L1 I2 L2 pc lv (.int y :: .int x :: st) := by
  intro p l e s m below meth c b D ad A H locs ls K S
  exact lv_icmp_eq K.x K.hb hd ht (fun _ => k p l e s m below meth c b D ad A H locs ls K S) (fun h => absurd hx h)
theorem ml_icmp_gt {x y : Int32} {off : Int} {tgt : Nat} (hd : decode code pc = .ok (.if_icmp .gt off, 3)) (ht : (pc : Int) + off = (tgt : Int)) (kt : y < x → ml_W L0 xs T I1 L1 I2 L2 tgt lv st) (kf : ¬ y < x → ml_W L0 xs T I1 L1 I2 L2 (pc + 3) lv st) : ml_W L0 xs T I1 L1 I2 L2 pc lv (.int y :: .int x :: st) := by
  intro p l e s m below meth c b D ad A H locs ls K S
  exact lv_icmp_gt K.x K.hb hd ht (fun h => kt h p l e s m below meth c b D ad A H locs ls K S) (fun h => kf h p l e s m below meth c b D ad A H locs ls K S)
theorem ml_tableIn {dflt lo hi : Int} {offs : Array Int} {len : Nat} {x : Int32} {off : Int} {tgt : Nat} (hd : decode code pc = .ok (.tableswitch dflt lo hi offs, len)) (h1 : ¬ x.toInt < lo) (h2 : ¬ hi < x.toInt) (ho : offs[(x.toInt - lo).toNat]? = some off) (ht : (pc : Int) + off = (tgt : Int)) (k : ml_W L0 xs T I1 L1 I2 L2 tgt lv st) : ml_W L0 xs T I1 L1 I2 L2 pc lv (.int x :: st) := by
  intro p l e s m below meth c b D ad A H locs ls K S
  exact lv_tableIn K.x K.hb hd h1 h2 ho ht (k p l e s m below meth c b D ad A H locs ls K S)
theorem ml_tableOut {dflt lo hi : Int} {offs : Array Int} {len : Nat} {x : Int32} {tgt : Nat} (hd : decode code pc = .ok (.tableswitch dflt lo hi offs, len)) (h : x.toInt < lo ∨ hi < x.toInt) (ht : (pc : Int) + dflt = (tgt : Int)) (k : ml_W L0 xs T I1 L1 I2 L2 tgt lv st) : ml_W L0 xs T I1 L1 I2 L2 pc lv (.int x :: st) := by
  intro p l e s m below meth c b D ad A H locs ls K S
  exact lv_tableOut K.x K.hb hd h ht (k p l e s m below meth c b D ad A H locs ls K S)
theorem ml_sld {i : Int32} (hin : vp_in i L0) (hd : decode code pc = .ok (.iaload, 1)) (k : ml_W L0 xs T I1 L1 I2 L2 (pc + 1) lv (.int (xs i.toNatClampNeg) :: st)) : ml_W L0 xs T I1 L1 I2 L2 pc lv (.int i :: .ref 1002 :: st) := by
  intro p l e s m below meth c b D ad A H locs ls K S
  have hk := k p l e s m below meth c b D ad A H locs ls K S
  show W p l e room_1 s m #[Value.ref b] below meth c H locs 600000 7302250 (lw_Z below #[Value.ref b] s) (F0 m pc ls (.int i :: .ref (ad 1002) :: st.map (mh_v ad)))
  rw [K.had]
  exact va_sld K.x K.hb K.hX K.hbl K.hbA S.S hin hd hk
theorem ml_slen (hd : decode code pc = .ok (.arraylength, 1)) (k : ml_W L0 xs T I1 L1 I2 L2 (pc + 1) lv (.int (nI L0) :: st)) : ml_W L0 xs T I1 L1 I2 L2 pc lv (.ref 1002 :: st) := by
  intro p l e s m below meth c b D ad A H locs ls K S
  have hk := k p l e s m below meth c b D ad A H locs ls K S
  show W p l e room_1 s m #[Value.ref b] below meth c H locs 600000 7302250 (lw_Z below #[Value.ref b] s) (F0 m pc ls (.ref (ad 1002) :: st.map (mh_v ad)))
  rw [K.had]
  exact va_slen K.x K.hb K.hX K.hbl K.hbA S.S hd hk
theorem ml_ret (hd : decode code pc = .ok (.ireturn, 1)) : ml_W L0 xs T I1 L1 I2 L2 pc lv [.int 1] := by
  intro p l e s m below meth c b D ad A H locs ls K S
  refine va_forget (fun q hq => (K.hA _).mp (S.S.2.2 q hq)) ?_
  exact lw_ret K.x K.hb K.hrt K.locks hd
end ML1
/-! a call out of the law: the callee's world is one of the two mini heaps -/
theorem ml_Pl {D : va_G} {cl : List vw_C} {w1 w2 : va_W} {H : Heap} (h : va_P D cl (w1 ++ w2) H) : va_P D cl w1 H := fun k q hk => h k q (by rw [List.getElem?_append_left (List.getElem?_eq_some_iff.mp hk).1]; exact hk)
theorem ml_Pr {D : va_G} {cl : List vw_C} {w1 w2 : va_W} {H : Heap} (h : va_P D cl (w1 ++ w2) H) : va_P D cl w2 H := fun k q hk => h (w1.length + k) q (by rw [List.getElem?_append_right (Nat.le_add_right _ _), Nat.add_sub_cancel_left]; exact hk)
theorem ml_Dl {A : Nat → Prop} {w1 w2 : va_W} (h : va_D A (w1 ++ w2)) : va_D A w1 := by
  have e : ∀ (k : Nat) (q : Nat × va_E), w1[k]? = some q → (w1 ++ w2)[k]? = some q := fun k q hk => by rw [List.getElem?_append_left (List.getElem?_eq_some_iff.mp hk).1]; exact hk
  exact ⟨fun i j x y hx hy hxy => h.1 i j x y (e i x hx) (e j y hy) hxy, fun k q hk => h.2 k q (e k q hk)⟩
theorem ml_Dr {A : Nat → Prop} {w1 w2 : va_W} (h : va_D A (w1 ++ w2)) : va_D A w2 := by
  have e : ∀ (k : Nat) (q : Nat × va_E), w2[k]? = some q → (w1 ++ w2)[w1.length + k]? = some q := fun k q hk => by rw [List.getElem?_append_right (Nat.le_add_right _ _), Nat.add_sub_cancel_left]; exact hk
  exact ⟨fun i j x y hx hy hxy => by have := h.1 _ _ x y (e i x hx) (e j y hy) hxy; omega, fun k q hk => h.2 _ q (e k q hk)⟩
theorem ml_Dx {A : Nat → Prop} {w1 w2 : va_W} (h : va_D A (w1 ++ w2)) (i j : Nat) (x y : Nat × va_E) (hx : w1[i]? = some x) (hy : w2[j]? = some y) : x.1 ≠ y.1 := by
  intro e
  have h1 := (List.getElem?_eq_some_iff.mp hx).1
  have := h.1 i (w1.length + j) x y (by rw [List.getElem?_append_left h1]; exact hx) (by rw [List.getElem?_append_right (Nat.le_add_right _ _), Nat.add_sub_cancel_left]; exact hy) e
  omega
theorem ml_Pswap {D : va_G} {cl : List vw_C} {w1 w2 : va_W} {H : Heap} (h : va_P D cl (w1 ++ w2) H) : va_P D cl (w2 ++ w1) H := (ml_Pr h).app (ml_Pl h)
theorem ml_Dswap {A : Nat → Prop} {w1 w2 : va_W} (h : va_D A (w1 ++ w2)) : va_D A (w2 ++ w1) := (ml_Dr h).app (ml_Dl h) (fun i j p q hp hq => Ne.symm (ml_Dx h j i q p hq hp))
/-- the numbering of a callee's cells: its own, what it makes, the Strings -/
def ml_ad (ad1 ad : Nat → Nat) (n z : Nat) : Nat → Nat := fun a => if a < n then ad1 a else if a < 1000 then z + (a - n) else ad a
def ml_ok (n : Nat) (c : mh_C) : Prop := ∀ (ad ad' : Nat → Nat), (∀ a, a < n → ad' a = ad a) → ∀ (cA : Nat → ClassId) (I : mh_I) (L : mh_L) (a : Nat), mh_cell ad' cA I L a c = mh_cell ad cA I L a c
theorem ml_ok_row {n k : Nat} {r : Nat → Option Nat} : ml_ok n (.inr (0, k, r)) := fun _ _ _ _ _ _ _ => rfl
theorem ml_ok_jrow {n k : Nat} {r : Nat → Option Nat} : ml_ok n (.inr (1, k, r)) := fun _ _ _ _ _ _ _ => rfl
theorem ml_ok_refs {n k t : Nat} {r : Nat → Option Nat} (h : ∀ j x, r j = some x → x < n) : ml_ok n (.inr (t + 2, k, r)) := by
  intro ad ad' ha cA I L a
  have e : (fun j => (r j).map ad') = fun j => (r j).map ad := by
    funext j
    cases hj : r j with
    | none => rfl
    | some x => exact congrArg some (ha x (h j x hj))
  rw [mh_cell, mh_cell, e]
theorem ml_ok_obj {n ci : Nat} {fs : List mh_F} (h : ∀ f ∈ fs, ∀ x, f = .inr (some x) → x < n) : ml_ok n (.inl (ci, fs)) := by
  intro ad ad' ha cA I L a
  rw [mh_cell, mh_cell]
  refine congrArg (fun z => (Sum.inr (ci, z) : va_E)) ?_
  apply List.ext_getElem?
  intro j
  rw [List.getElem?_mapIdx, List.getElem?_mapIdx]
  cases hf : fs[j]? with
  | none => rfl
  | some f =>
    simp only [Option.map_some]
    refine congrArg some ?_
    rcases f with v | r
    · cases v <;> rfl
    · cases r with
      | none => rfl
      | some x => exact congrArg Value.ref (ha x (h _ (List.mem_of_getElem? hf) x rfl))
theorem ml_ws {n : Nat} {sh : List mh_C} (hn : sh.length = n) (h : ∀ c ∈ sh, ml_ok n c) {ad ad' : Nat → Nat} (ha : ∀ a, a < n → ad' a = ad a) (cA : Nat → ClassId) (I : mh_I) (L : mh_L) : mh_ws ad' cA sh I L = mh_ws ad cA sh I L := by
  apply List.ext_getElem?
  intro j
  unfold mh_ws
  rw [List.getElem?_mapIdx, List.getElem?_mapIdx]
  cases hc : sh[j]? with
  | none => rfl
  | some c =>
    simp only [Option.map_some]
    rw [ha j (by rw [← hn]; exact (List.getElem?_eq_some_iff.mp hc).1), h c (List.mem_of_getElem? hc) ad ad' ha]
theorem ml_okX {T : Option Nat} (hT : ∀ t, T = some t → t < 46) : ∀ c ∈ SHX T, ml_ok 46 c := by
  have h2 : ∀ (ci : Nat) (fs : List mh_F), (fs.all fun f => match f with | .inr (some x) => decide (x < 46) | _ => true) = true → ml_ok 46 (.inl (ci, fs)) := fun ci fs hall => ml_ok_obj fun f hf x hx => by
    have := List.all_eq_true.mp hall f hf
    subst hx
    simpa using this
  have h3 : ml_ok 46 (.inl (3, fsX3 7 T)) := ml_ok_obj fun f hf x hx => by
    subst hx
    simp only [List.mem_cons, List.not_mem_nil, or_false, reduceCtorEq, false_or, Sum.inr.injEq, Option.some.injEq] at hf
    rcases hf with h | h
    · omega
    · exact hT x h.symm
  have h4 : ∀ j x, mh_rT j = some x → x < 46 := fun j x h => by
    unfold mh_rT at h
    by_cases hj : j < 6
    · rw [if_pos hj] at h; cases h; omega
    · rw [if_neg hj] at h; cases h
  have h5 : ∀ j x, mh_rS j = some x → x < 46 := fun j x h => by
    unfold mh_rS at h
    by_cases hj : j < 4
    · rw [if_pos hj] at h; cases h; omega
    · rw [if_neg hj] at h; cases h
  unfold SHX
  simp only [List.forall_mem_cons]
  refine ⟨?_, ?_, ?_, ?_, ?_, ?_, ?_, h3, ?_, ml_ok_refs h4, ?_, ?_, ml_ok_refs h5, ml_ok_jrow, ?_, ?_, ?_, ?_, ?_, ?_, ?_, ?_, ?_, ?_, ?_, ?_, ?_, ?_, ?_, ?_, ?_, ?_, ?_, ?_, ?_, ?_, ?_, ?_, ?_, ?_, ?_, ?_, ?_, ?_, ?_, ?_, fun c hc => by cases hc⟩ <;> first | exact ml_ok_row | exact h2 _ _ rfl
theorem ml_okM : ∀ c ∈ SHM, ml_ok 18 c := by
  have h2 : ∀ (ci : Nat) (fs : List mh_F), (fs.all fun f => match f with | .inr (some x) => decide (x < 18) | _ => true) = true → ml_ok 18 (.inl (ci, fs)) := fun ci fs hall => ml_ok_obj fun f hf x hx => by
    have := List.all_eq_true.mp hall f hf
    subst hx
    simpa using this
  unfold SHM
  simp only [List.forall_mem_cons]
  refine ⟨h2 _ _ rfl, ?_, ?_, ?_, ?_, ?_, ?_, ?_, ?_, ?_, ?_, ?_, ?_, ?_, ?_, ?_, ?_, ?_, fun c hc => by cases hc⟩ <;> exact ml_ok_row
