section MH3
variable {own : String} {cc : ByteArray} {nL : Nat} {rt : Option FieldType} {ini : Bool} {R : Room} {n0 mc ms : Nat} {Ex : mh_X} {Φ : mh_P} {slots : Nat} {sh : List mh_C} {I : mh_I} {L : mh_L} {pc : Nat} {lv : List (Nat × Value)} {st : List Value}
theorem mw_puti {index ci k a : Nat} {fs : List mh_F} {x : Int32} {ty : FieldType} {fin : Bool} (q : mh_fp own index ci k ty fin) (hi : fin = true → ini = true) (hn : narrow ty (.int x) = .int x) (hfit : fits ty (.int x) = true) (hd : decode cc pc = .ok (.putfield index, 3)) (hs : sh[a]? = some (.inl (ci, fs))) (hf : fs[k]? = some (.inl 0))
    (kk : mh_W own cc nL rt ini R n0 mc ms Ex Φ slots sh (mh_u I a k x) L (pc + 3) lv st) : mh_W own cc nL rt ini R n0 mc ms Ex Φ slots sh I L pc lv (.int x :: .ref a :: st) := by
  refine mw_putv (fs' := fs) (v := .int x) q hi hd hs (List.getElem?_eq_some_iff.mp hf).1 (fun _ => hn) (fun _ => hfit) mh_u_ne (fun _ _ => rfl) (fun ad => mh_fs_seti hf) ?_
  rw [mh_set_same hs]
  exact kk
theorem mw_putl {index ci k a : Nat} {fs : List mh_F} {x : Int64} {fin : Bool} (q : mh_fp own index ci k .long fin) (hi : fin = true → ini = true) (hd : decode cc pc = .ok (.putfield index, 3)) (hs : sh[a]? = some (.inl (ci, fs))) (hf : fs[k]? = some (.inl 1))
    (kk : mh_W own cc nL rt ini R n0 mc ms Ex Φ slots sh I (mh_ul L a k x) (pc + 3) lv st) : mh_W own cc nL rt ini R n0 mc ms Ex Φ slots sh I L pc lv (.long x :: .ref a :: st) := by
  refine mw_putv (fs' := fs) (v := .long x) q hi hd hs (List.getElem?_eq_some_iff.mp hf).1 (fun _ => rfl) (fun _ => rfl) (fun _ _ => rfl) mh_ul_ne (fun ad => mh_fs_setl hf) ?_
  rw [mh_set_same hs]
  exact kk
theorem mw_putr {index ci k a b : Nat} {fs : List mh_F} {ty : FieldType} {fin : Bool} (q : mh_fp own index ci k ty fin) (hi : fin = true → ini = true) (hty : refKind ty = true) (hd : decode cc pc = .ok (.putfield index, 3)) (hs : sh[a]? = some (.inl (ci, fs))) (hk : k < fs.length)
    (kk : mh_W own cc nL rt ini R n0 mc ms Ex Φ slots (sh.set a (.inl (ci, fs.set k (.inr (some b))))) I L (pc + 3) lv st) : mh_W own cc nL rt ini R n0 mc ms Ex Φ slots sh I L pc lv (.ref b :: .ref a :: st) :=
  mw_putv (fs' := fs.set k (.inr (some b))) (v := .ref b) q hi hd hs hk (fun _ => by cases ty <;> first | rfl | cases hty) (fun _ => by cases ty <;> first | rfl | cases hty) (fun _ _ => rfl) (fun _ _ => rfl) (fun ad => mh_fs_setr (r := some b) hk) kk
theorem mw_iald {a n : Nat} {r : Nat → Option Nat} {i : Int32} (hd : decode cc pc = .ok (.iaload, 1)) (hs : sh[a]? = some (.inr (0, n, r))) (hin : ¬ (i < 0 ∨ n ≤ i.toNatClampNeg)) (kk : mh_W own cc nL rt ini R n0 mc ms Ex Φ slots sh I L (pc + 1) lv (.int (I a i.toNatClampNeg) :: st)) : mh_W own cc nL rt ini R n0 mc ms Ex Φ slots sh I L pc lv (.int i :: .ref a :: st) := by
  intro p l e s m args below meth c D ad A cA H locs ls K S
  exact va_iald K.x K.b (S.KA hs) S.P a 0 (mh_ws_at hs) rfl hin hd (kk p l e s m args below meth c D ad A cA H locs ls K S)
theorem mw_lald {a n : Nat} {r : Nat → Option Nat} {i : Int32} (hd : decode cc pc = .ok (.laload, 1)) (hs : sh[a]? = some (.inr (1, n, r))) (hin : ¬ (i < 0 ∨ n ≤ i.toNatClampNeg)) (kk : mh_W own cc nL rt ini R n0 mc ms Ex Φ slots sh I L (pc + 1) lv (.long (L a i.toNatClampNeg) :: st)) : mh_W own cc nL rt ini R n0 mc ms Ex Φ slots sh I L pc lv (.int i :: .ref a :: st) := by
  intro p l e s m args below meth c D ad A cA H locs ls K S
  exact va_lald K.x K.b (S.KA hs) S.P a 0 (mh_ws_at hs) rfl hin hd (kk p l e s m args below meth c D ad A cA H locs ls K S)
theorem mh_ty_ref (t : Nat) : ∃ C : String, mh_ty (t + 3) = .object C ∧ ∃ (ci : Nat) (T : u_T) (N : Nat), vwCl[ci]? = some (C, T, N) := by
  match t with
  | 0 => exact ⟨RX2, rfl, 2, TX2, 3, rfl⟩
  | t + 1 => exact ⟨RX4, rfl, 4, TX4, 5, rfl⟩
theorem mw_aald {a n t b : Nat} {r : Nat → Option Nat} {i : Int32} (hd : decode cc pc = .ok (.aaload, 1)) (hs : sh[a]? = some (.inr (t + 3, n, r))) (hin : ¬ (i < 0 ∨ n ≤ i.toNatClampNeg)) (hb : r i.toNatClampNeg = some b) (kk : mh_W own cc nL rt ini R n0 mc ms Ex Φ slots sh I L (pc + 1) lv (.ref b :: st)) : mh_W own cc nL rt ini R n0 mc ms Ex Φ slots sh I L pc lv (.int i :: .ref a :: st) := by
  intro p l e s m args below meth c D ad A cA H locs ls K S
  obtain ⟨C, hC, -⟩ := mh_ty_ref t
  have hKA := S.KA hs
  rw [hC] at hKA
  have hk := kk p l e s m args below meth c D ad A cA H locs ls K S
  refine va_aldq (f := fun k => (r k).map ad) K.x K.b hKA S.P a 0 (mh_ws_at hs) rfl hin hd ?_
  rw [hb]
  exact hk
/-- an array's cell written -/
theorem mh_arr_step {nL' : Nat} {s : State} {D : va_G} {ad : Nat → Nat} {A : Nat → Prop} {cA : Nat → ClassId} {H H1 : Heap} {locs locs1 : List Loc} {ls : Array Slot} {sh' : List mh_C} {I' : mh_I} {L' : mh_L} {a t n : Nat} {r r' : Nat → Option Nat} (hs : sh[a]? = some (.inr (t, n, r))) (hsh : sh' = sh.set a (.inr (t, n, r'))) (S : mh_S nL' n0 s D ad A cA sh I L lv H locs ls) {c' : va_E}
    (hc : c' = mh_cell ad cA I' L' a (.inr (t, n, r'))) (hI : ∀ b, b ≠ a → I' b = I b) (hL : ∀ b, b ≠ a → L' b = L b) (hP : va_P D vwCl ((mh_ws ad cA sh I L).set a (ad a, c')) H1) (hD : va_D A ((mh_ws ad cA sh I L).set a (ad a, c'))) (hS : va_S A s.heap H1 locs1) : mh_S nL' n0 s D ad A cA sh' I' L' lv H1 locs1 ls := by
  have ha : a < sh.length := (List.getElem?_eq_some_iff.mp hs).1
  subst hc
  subst hsh
  rw [mh_ws_set ha hI hL] at hP hD
  refine ⟨S.1.set hP hD (fun b t1 n1 r1 h => ?_), hS, S.hlv, by rw [List.length_set]; exact S.hn0, by rw [List.length_set]; exact S.big⟩
  by_cases hb : b = a
  · subst hb
    rw [List.getElem?_set_self ha] at h
    cases h
    exact ⟨r, hs⟩
  · rw [List.getElem?_set_ne (Ne.symm hb)] at h
    exact ⟨r1, h⟩
theorem mw_iast {a n : Nat} {r : Nat → Option Nat} {i x : Int32} (hd : decode cc pc = .ok (.iastore, 1)) (hs : sh[a]? = some (.inr (0, n, r))) (hin : ¬ (i < 0 ∨ n ≤ i.toNatClampNeg)) (kk : mh_W own cc nL rt ini R n0 mc ms Ex Φ slots sh (mh_u I a i.toNatClampNeg x) L (pc + 1) lv st) : mh_W own cc nL rt ini R n0 mc ms Ex Φ slots sh I L pc lv (.int x :: .int i :: .ref a :: st) := by
  intro p l e s m args below meth c D ad A cA H locs ls K S
  refine va_iast K.x K.b (S.KA hs) S.P S.hD S.S a 0 (mh_ws_at hs) rfl hin hd (fun H1 locs1 hP hD hS => ?_)
  exact kk p l e s m args below meth c D ad A cA H1 locs1 ls K (mh_arr_step hs (mh_set_same hs).symm S (by rw [mh_cell, mh_u_row]) mh_u_ne (fun _ _ => rfl) hP hD hS)
theorem mw_last {a n : Nat} {r : Nat → Option Nat} {i : Int32} {x : Int64} (hd : decode cc pc = .ok (.lastore, 1)) (hs : sh[a]? = some (.inr (1, n, r))) (hin : ¬ (i < 0 ∨ n ≤ i.toNatClampNeg)) (kk : mh_W own cc nL rt ini R n0 mc ms Ex Φ slots sh I (mh_ul L a i.toNatClampNeg x) (pc + 1) lv st) : mh_W own cc nL rt ini R n0 mc ms Ex Φ slots sh I L pc lv (.long x :: .int i :: .ref a :: st) := by
  intro p l e s m args below meth c D ad A cA H locs ls K S
  refine va_last K.x K.b (S.KA hs) S.P S.hD S.S a 0 (mh_ws_at hs) rfl hin hd (fun H1 locs1 hP hD hS => ?_)
  refine kk p l e s m args below meth c D ad A cA H1 locs1 ls K (mh_arr_step hs (mh_set_same hs).symm S ?_ (fun _ _ => rfl) mh_ul_ne hP hD hS)
  have hr : vp_updL (L a) i.toNatClampNeg x = mh_ul L a i.toNatClampNeg x a := by funext j; simp [mh_ul, vp_updL]
  rw [mh_cell, hr]
theorem mw_aast {a n t b ci : Nat} {r : Nat → Option Nat} {i : Int32} {fs : List mh_F} (hd : decode cc pc = .ok (.aastore, 1)) (hs : sh[a]? = some (.inr (t + 3, n, r))) (hb : sh[b]? = some (.inl (ci, fs))) (hci : ∃ (C : String) (T : u_T) (N : Nat), vwCl[ci]? = some (C, T, N) ∧ mh_ty (t + 3) = .object C) (hin : ¬ (i < 0 ∨ n ≤ i.toNatClampNeg)) (kk : mh_W own cc nL rt ini R n0 mc ms Ex Φ slots (sh.set a (.inr (t + 3, n, va_up r i.toNatClampNeg (some b)))) I L (pc + 1) lv st) : mh_W own cc nL rt ini R n0 mc ms Ex Φ slots sh I L pc lv (.ref b :: .int i :: .ref a :: st) := by
  intro p l e s m args below meth c D ad A cA H locs ls K S
  obtain ⟨C, T, N, hc, hC⟩ := hci
  have hKA := S.KA hs
  rw [hC] at hKA
  refine va_astq (r := (C, T, N)) (f := fun k => (r k).map ad) K.x K.b ⟨hKA.1, hKA.2⟩ S.P S.hD S.S a 0 b ci (mh_ws_at hs) rfl (mh_ws_at hb) hc hin hd (fun H1 locs1 hP hD hS => ?_)
  have hk := kk p l e s m args below meth c D ad A cA H1 locs1 ls K (mh_arr_step (I' := I) (L' := L) hs rfl S ?_ (fun _ _ => rfl) (fun _ _ => rfl) hP hD hS)
  · rw [List.length_set] at hk
    exact hk
  · rw [mh_cell]
    congr 7
    funext j
    by_cases hj : j = i.toNatClampNeg <;> simp [va_up, hj]
theorem mw_copy {a0 a1 n0' n1' index : Nat} {r0 r1 : Nat → Option Nat} {sp dp n : Int32} (hl : Cond.methodLink own index arraycopyName ∈ mh_TB) (hd : decode cc pc = .ok (.invokestatic index, 3)) (hs0 : sh[a0]? = some (.inr (0, n0', r0))) (hs1 : sh[a1]? = some (.inr (0, n1', r1))) (h1 : ¬ sp < 0) (h2 : ¬ dp < 0) (h3 : ¬ n < 0) (h4 : sp.toNatClampNeg + n.toNatClampNeg ≤ n0') (h5 : dp.toNatClampNeg + n.toNatClampNeg ≤ n1')
    (hw : Cond.native arraycopyName ∈ mh_TB ∧ Cond.static arraycopyName ∈ mh_TB ∧ Cond.initialized "java/lang/System" ∈ mh_TB) (hR : 1 ≤ R.frames ∧ (st.map fun v => v.category).sum + (nativeFrameWords "java/lang/System" "arraycopy" 5 + 11) ≤ R.locals)
    (kk : mh_W own cc nL rt ini R n0 mc ms Ex Φ slots sh (fun b => if b = a1 then va_cpy (I a0) (I a1) sp.toNatClampNeg dp.toNatClampNeg n.toNatClampNeg else I b) L (pc + 3) lv st) : mh_W own cc nL rt ini R n0 mc ms Ex Φ slots sh I L pc lv (.int n :: .int dp :: .ref a1 :: .int sp :: .ref a0 :: st) := by
  intro p l e s m args below meth c D ad A cA H locs ls K S
  have hKK : va_K D vwCl [(cA a0, .int), (cA a1, .int)] s := va_K.app (S.KA hs0) (S.KA hs1)
  refine va_copyi (ty := .int) K.x K.b (K.ml.trans S.hlv.1.symm) K.hown (K.tb _ hl) (K.tb _ hw.1) (K.tb _ hw.2.1) (K.tb _ hw.2.2) hKK S.P S.hD S.S a0 a1 0 1 (mh_ws_at hs0) (mh_ws_at hs1) rfl rfl rfl h1 h2 h3 h4 h5 (fun _ _ => rfl) hR.1 (by rw [mh_cats]; exact hR.2) hd (fun H1 locs1 hP hD hS => ?_)
  exact kk p l e s m args below meth c D ad A cA H1 locs1 ls K (mh_arr_step hs1 (mh_set_same hs1).symm S (by rw [mh_cell]; simp) (fun b hb => by simp [hb]) (fun _ _ => rfl) hP hD hS)
theorem mw_bald8 {a n : Nat} {r : Nat → Option Nat} {i : Int32} (hd : decode cc pc = .ok (.baload, 1)) (hs : sh[a]? = some (.inr (2, n, r))) (hin : ¬ (i < 0 ∨ n ≤ i.toNatClampNeg)) (kk : mh_W own cc nL rt ini R n0 mc ms Ex Φ slots sh I L (pc + 1) lv (.int (I a i.toNatClampNeg) :: st)) : mh_W own cc nL rt ini R n0 mc ms Ex Φ slots sh I L pc lv (.int i :: .ref a :: st) := by
  intro p l e s m args below meth c D ad A cA H locs ls K S
  exact va_bald K.x K.b (S.KA hs) S.P a 0 (mh_ws_at hs) rfl hin hd (kk p l e s m args below meth c D ad A cA H locs ls K S)
theorem mw_bast8 {a n : Nat} {r : Nat → Option Nat} {i x : Int32} (hd : decode cc pc = .ok (.bastore, 1)) (hs : sh[a]? = some (.inr (2, n, r))) (hin : ¬ (i < 0 ∨ n ≤ i.toNatClampNeg)) (kk : mh_W own cc nL rt ini R n0 mc ms Ex Φ slots sh (mh_u I a i.toNatClampNeg (vp_nar .byte x)) L (pc + 1) lv st) : mh_W own cc nL rt ini R n0 mc ms Ex Φ slots sh I L pc lv (.int x :: .int i :: .ref a :: st) := by
  intro p l e s m args below meth c D ad A cA H locs ls K S
  refine va_bast K.x K.b (S.KA hs) S.P S.hD S.S a 0 (mh_ws_at hs) rfl hin hd (fun H1 locs1 hP hD hS => ?_)
  exact kk p l e s m args below meth c D ad A cA H1 locs1 ls K (mh_arr_step hs (mh_set_same hs).symm S (by rw [mh_cell, mh_u_row]) mh_u_ne (fun _ _ => rfl) hP hD hS)
theorem mw_alen8 {a n : Nat} {r : Nat → Option Nat} {v : Int32} (hd : decode cc pc = .ok (.arraylength, 1)) (hs : sh[a]? = some (.inr (2, n, r))) (hv : nI n = v) (kk : mh_W own cc nL rt ini R n0 mc ms Ex Φ slots sh I L (pc + 1) lv (.int v :: st)) : mh_W own cc nL rt ini R n0 mc ms Ex Φ slots sh I L pc lv (.ref a :: st) := by
  intro p l e s m args below meth c D ad A cA H locs ls K S
  exact va_alen (ty := .byte) K.x K.b (S.KA hs) S.P a 0 (mh_ws_at hs) rfl hv hd (kk p l e s m args below meth c D ad A cA H locs ls K S)
theorem mw_copy8 {a0 a1 n0' n1' index : Nat} {r0 r1 : Nat → Option Nat} {sp dp n : Int32} (hl : Cond.methodLink own index arraycopyName ∈ mh_TB) (hd : decode cc pc = .ok (.invokestatic index, 3)) (hs0 : sh[a0]? = some (.inr (2, n0', r0))) (hs1 : sh[a1]? = some (.inr (2, n1', r1))) (h1 : ¬ sp < 0) (h2 : ¬ dp < 0) (h3 : ¬ n < 0) (h4 : sp.toNatClampNeg + n.toNatClampNeg ≤ n0') (h5 : dp.toNatClampNeg + n.toNatClampNeg ≤ n1') (hfit : ∀ i, i < n.toNatClampNeg → fits .byte (.int (I a0 (sp.toNatClampNeg + i))) = true)
    (hw : Cond.native arraycopyName ∈ mh_TB ∧ Cond.static arraycopyName ∈ mh_TB ∧ Cond.initialized "java/lang/System" ∈ mh_TB) (hR : 1 ≤ R.frames ∧ (st.map fun v => v.category).sum + (nativeFrameWords "java/lang/System" "arraycopy" 5 + 11) ≤ R.locals)
    (kk : mh_W own cc nL rt ini R n0 mc ms Ex Φ slots sh (fun b => if b = a1 then va_cpy (I a0) (I a1) sp.toNatClampNeg dp.toNatClampNeg n.toNatClampNeg else I b) L (pc + 3) lv st) : mh_W own cc nL rt ini R n0 mc ms Ex Φ slots sh I L pc lv (.int n :: .int dp :: .ref a1 :: .int sp :: .ref a0 :: st) := by
  intro p l e s m args below meth c D ad A cA H locs ls K S
  have hKK : va_K D vwCl [(cA a0, .byte), (cA a1, .byte)] s := va_K.app (S.KA hs0) (S.KA hs1)
  refine va_copyi (ty := .byte) K.x K.b (K.ml.trans S.hlv.1.symm) K.hown (K.tb _ hl) (K.tb _ hw.1) (K.tb _ hw.2.1) (K.tb _ hw.2.2) hKK S.P S.hD S.S a0 a1 0 1 (mh_ws_at hs0) (mh_ws_at hs1) rfl rfl rfl h1 h2 h3 h4 h5 hfit hR.1 (by rw [mh_cats]; exact hR.2) hd (fun H1 locs1 hP hD hS => ?_)
  exact kk p l e s m args below meth c D ad A cA H1 locs1 ls K (mh_arr_step hs1 (mh_set_same hs1).symm S (by rw [mh_cell]; simp) (fun b hb => by simp [hb]) (fun _ _ => rfl) hP hD hS)
/-- the size of the heap is known between two numbers -/
theorem W_szb {p : Program} {l : Launch} {e : Env} {s : State} {m : MethodId} {args : Array Value} {below : List Frame} {meth : Method} {c : Code} {H : Heap} {locs : List Loc} {cells slots : Nat} {Q : State → Prop} {g : JFrame} (k : s.heap.size ≤ H.size → H.size ≤ s.heap.size + cells → W p l e R s m args below meth c H locs cells slots Q g) : W p l e R s m args below meth c H locs cells slots Q g := by
  intro T hT X
  have h := X.same
  unfold State.sameButNew at h
  have h1 : s.heap.size ≤ T.heap.size := h.2.1
  have h2 : T.heap.size ≤ s.heap.size + cells := h.2.2.1
  rw [hT] at h1 h2
  exact k h1 h2 T hT X
theorem mh_low {D : va_G} {ad : Nat → Nat} {cA : Nat → ClassId} {H : Heap} {z : Nat} (hP : va_P D vwCl (mh_ws ad cA sh I L) H) (had : ∀ a : Nat, n0 ≤ a → a < 1000 → ad a = z + (a - n0)) (hn : n0 ≤ sh.length) (hb : sh.length < 1000) (hz : z ≤ H.size) : z + (sh.length - n0) ≤ H.size := by
  by_cases h : sh.length = n0
  · omega
  · have h1 : sh.length - 1 < sh.length := by omega
    obtain ⟨c, hc⟩ : ∃ c, sh[sh.length - 1]? = some c := ⟨_, List.getElem?_eq_getElem h1⟩
    have h2 := (hP _ _ (mh_ws_at hc)).lt
    rw [had (sh.length - 1) (by omega) (by omega)] at h2
    omega
end MH3
