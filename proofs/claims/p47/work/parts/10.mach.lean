/-! THE MINI HEAP: cells by small literal addresses, their numbers in two flat memories, references in the shape; a judgement over it that holds the kit's context inside -/
abbrev mh_F : Type := Nat ⊕ Option Nat
abbrev mh_C : Type := (Nat × List mh_F) ⊕ (Nat × Nat × (Nat → Option Nat))
abbrev mh_I : Type := Nat → Nat → Int32
abbrev mh_L : Type := Nat → Nat → Int64
def mh_ty : Nat → FieldType
  | 0 => .int
  | 1 => .long
  | 2 => .byte
  | 3 => .object RX2
  | _ => .object RX4
def mh_v (ad : Nat → Nat) : Value → Value
  | .ref a => .ref (ad a)
  | v => v
def mh_fv (ad : Nat → Nat) (I : mh_I) (L : mh_L) (a k : Nat) : mh_F → Value
  | .inl 0 => .int (I a k)
  | .inl (_ + 1) => .long (L a k)
  | .inr r => va_rf (r.map ad)
def mh_cell (ad : Nat → Nat) (cA : Nat → ClassId) (I : mh_I) (L : mh_L) (a : Nat) : mh_C → va_E
  | .inl (ci, fs) => .inr (ci, fs.mapIdx (fun k f => mh_fv ad I L a k f))
  | .inr (0, n, _) => .inl (cA a, n, .inl (I a))
  | .inr (1, n, _) => .inl (cA a, n, .inr (.inl (L a)))
  | .inr (2, n, _) => .inl (cA a, n, .inl (I a))
  | .inr (_ + 3, n, r) => .inl (cA a, n, .inr (.inr (.inr (.inr (fun k => (r k).map ad)))))
def mh_ws (ad : Nat → Nat) (cA : Nat → ClassId) (sh : List mh_C) (I : mh_I) (L : mh_L) : va_W := sh.mapIdx (fun a c => (ad a, mh_cell ad cA I L a c))
/-- an int, a long written at a place of a cell -/
def mh_u (I : mh_I) (a k : Nat) (x : Int32) : mh_I := fun b j => if b = a ∧ j = k then x else I b j
def mh_ul (L : mh_L) (a k : Nat) (x : Int64) : mh_L := fun b j => if b = a ∧ j = k then x else L b j
/-- what is in the tables and stays true at a call -/
theorem lw_notif {C : String} {y y0 : MethodName} {s : State} {args : Array Value} (h0 : (Cond.selects C y0 y0).before args s = true) (e : y0.cls = y.cls) {mk : MethodId} (hn : s.methodNamed? y = some mk) : ∃ k, s.vm.classes[mk.cls]? = some k ∧ k.isInterface = false := by
  simp only [Cond.before, Cond.holds, Cond.value] at h0
  cases h1 : s.vm.findClass C with
  | none => simp [h1] at h0
  | some c =>
    cases h2 : s.methodFound? y0.cls y0.name y0.desc with
    | none => simp [h1, h2] at h0
    | some r =>
      cases h3 : s.methodNamed? y0 with
      | none => simp [h1, h2, h3] at h0
      | some m =>
        have hm : m.cls = mk.cls := by
          have a1 := findClass_of_methodNamed h3
          have a2 := findClass_of_methodNamed hn
          rw [e] at a1
          exact Option.some.inj (a1.symm.trans a2)
        simp only [h1, h2, h3] at h0
        cases h4 : selectMethod {} s.vm c r with
        | method m' =>
          simp only [h4] at h0
          cases h5 : s.vm.classes[m.cls]? with
          | none => simp [h5] at h0
          | some k =>
            simp [h5] at h0
            exact ⟨k, by rw [← hm]; exact h5, h0.2⟩
        | _ => simp [h4] at h0
theorem lw_selsup {C : String} {y y0 : MethodName} {s : State} {args : Array Value} (hy : y.cls ≠ "java/lang/invoke/MethodHandle" ∧ y.cls ≠ "java/lang/invoke/VarHandle") (h0 : (Cond.selects C y0 y0).before args s = true) (e : y0.cls = y.cls) (hins : ∃ n, (Cond.instantiable C n).before args s = true) (hpriv : (Cond.privateMethod y).before args s = true) (hinst : (Cond.instanceMethod y).before args s = true) : (Cond.selects C y y).before args s = true := by
  obtain ⟨n, hins⟩ := hins
  obtain ⟨c, k, hc, hk, -⟩ := Cond.instantiable_spec hins
  obtain ⟨mk, methM, hnamed, hmethM, -, -⟩ := Cond.instanceMethod_spec hinst
  have hfound : s.methodFound? y.cls y.name y.desc = some mk := State.methodFound?_of_named hnamed hy
  obtain ⟨kp, hkp, hni⟩ := lw_notif h0 e hnamed
  have hsel : selectMethod {} s.vm c mk = .method mk := selectMethod_private hmethM (Cond.privateMethod_at hpriv mk methM hnamed hmethM)
  simp only [Cond.before, Cond.holds, Cond.value, hc, hfound, hnamed, hsel, hkp]
  simp; exact hni
def lw_sup : List Cond := [.selects RJ4 yJ5_ensureCapacityInternal_d00df yJ5_ensureCapacityInternal_d00df, .selects RJ4 yJ5_newCapacity_0f7a4 yJ5_newCapacity_0f7a4, .selects RJ4 yJ5_putStringAt_47b60 yJ5_putStringAt_47b60, .selects RJ4 yJ5_inflateIfNeededFor_a7421 yJ5_inflateIfNeededFor_a7421]
def mh_TB : List Cond := (lw_sup ++ lw_tbl).filter goodWord
def mh_nest : Cond → Bool
  | .fieldLinkNest _ _ _ _ _ _ => true
  | .methodLinkNest _ _ _ _ => true
  | _ => false
def mh_NW : List Cond := tables_1.filter mh_nest
/-- the String constants: refs 1000 .. 1004, in the order of mh_tx; DigitOnes is the ref 1030 -/
def mh_tx : List String := ["rub 10 + more - face * 3 ; minutes 2 + more ; seen 1 + face ;", " rub minutes seen or and not row place more pull face mended ", "rub pull*", "+row-more;minutes pull+mended;seen place*row-face*", ";"]
def mh_ldc : List (String × Nat × Nat) := [(RX5, 51, 0), (RX3, 84, 1), (RL, 52, 2), (RL, 64, 3), (RL, 66, 4)]
def mh_byt : List (List Int32) := mh_tx.map (fun t => t.toList.map (fun ch => Int32.ofNat ch.toNat))
def mh_len : List Nat := mh_tx.map (fun t => t.length)
/-- what else holds at a method's start and isn't the method's to write -/
def mh_E (A : Nat → Prop) (ad : Nat → Nat) (U : State) : Prop :=
  (∀ w ∈ mh_NW, va_Nw w U) ∧ (∀ q ∈ mh_ldc, vk_R q.1 q.2.1 (mh_tx.getD q.2.2 "") (ad (1000 + q.2.2)) U) ∧
  vk_S 5 mh_len mh_byt (fun i => ad (1000 + i)) (fun i => ad (1010 + i)) A U U.heap ∧ va_Z "java/lang/String" "COMPACT_STRINGS" "Z" (.int 1) A U U.heap ∧ (va_Z "jdk/internal/util/Preconditions" "SIOOBE_FORMATTER" "Ljava/util/function/BiFunction;" .null A U U.heap ∨ va_Z "jdk/internal/util/Preconditions" "SIOOBE_FORMATTER" "Ljava/util/function/BiFunction;" (.ref (ad 1020)) A U U.heap) ∧ va_AO RX2 U ∧ va_AO RX4 U ∧ va_Z "java/lang/Integer" "DigitOnes" "[B" (.ref (ad 1030)) A U U.heap ∧ va_T .byte (ad 1030) 100 (fun j => .int (nI (48 + j % 10))) A U U.heap
abbrev mh_P : Type := Option Value → List mh_C → mh_I → mh_L → Prop
abbrev mh_X : Type := (Nat → Nat) → (Nat → Prop) → State → Prop
def mh_noX : mh_X := fun _ _ _ => True
def mh_B (D : va_G) (ad : Nat → Nat) (cA : Nat → ClassId) (A : Nat → Prop) (sh : List mh_C) (I : mh_I) (L : mh_L) (H : Heap) (U : State) : Prop :=
  va_P D vwCl (mh_ws ad cA sh I L) H ∧ va_D A (mh_ws ad cA sh I L) ∧ va_K D vwCl [] U ∧ ∀ (a t n : Nat) (r : Nat → Option Nat), sh[a]? = some (.inr (t, n, r)) → va_K D vwCl [(cA a, mh_ty t)] U
def mh_A (ad : Nat → Nat) (n sz : Nat) : Nat → Prop := fun q => (∃ a : Nat, a < n ∧ q = ad a) ∨ sz ≤ q
/-- a method's end, in the words of the mini heap -/
def mh_Q (D : va_G) (ad : Nat → Nat) (A : Nat → Prop) (n0 : Nat) (Φ : mh_P) : Array Value → State → Outcome → State → Prop := fun _ st oc t =>
  (∃ (r : Option Value) (cA : Nat → ClassId) (sh : List mh_C) (I : mh_I) (L : mh_L), oc = .returned (r.map (mh_v ad)) ∧ Φ r sh I L ∧ mh_B D ad cA A sh I L t.heap t ∧ sh.length < 1000 ∧ n0 ≤ sh.length) ∧ va_F A st t
/-- what stays through a method -/
def mh_K (own : String) (cc : ByteArray) (nL : Nat) (rt : Option FieldType) (ini : Bool) (n0 : Nat) (Ex : mh_X) (p : Program) (s : State) (m : MethodId) (args : Array Value) (meth : Method) (c : Code) (ad : Nat → Nat) (A : Nat → Prop) : Prop :=
  p.tables.exec = Jvm.exec ∧ c.code = cc ∧ c.maxLocals = nL ∧ meth.sig.returnType = rt ∧ meth.locks = false ∧ (ini = true → meth.name = "<init>") ∧ s.vm.findClass own = some m.cls ∧ (∀ w ∈ mh_TB, w.before args s = true) ∧ mh_E A ad s ∧ (∀ q : Nat, A q ↔ mh_A ad n0 s.heap.size q) ∧ (∀ a : Nat, n0 ≤ a → a < 1000 → ad a = s.heap.size + (a - n0)) ∧ Ex ad A s
/-- what moves -/
def mh_S (nL n0 : Nat) (s : State) (D : va_G) (ad : Nat → Nat) (A : Nat → Prop) (cA : Nat → ClassId) (sh : List mh_C) (I : mh_I) (L : mh_L) (lv : List (Nat × Value)) (H : Heap) (locs : List Loc) (ls : Array Slot) : Prop :=
  mh_B D ad cA A sh I L H s ∧ va_S A s.heap H locs ∧ lv_has ls nL (lv.map (fun q => (q.1, mh_v ad q.2))) ∧ n0 ≤ sh.length ∧ sh.length < 1000
/-- the machine at pc with these locals, this stack, this mini heap comes to the method's end with Φ -/
def mh_W (own : String) (cc : ByteArray) (nL : Nat) (rt : Option FieldType) (ini : Bool) (R : Room) (n0 mc ms : Nat) (Ex : mh_X) (Φ : mh_P) (slots : Nat) (sh : List mh_C) (I : mh_I) (L : mh_L) (pc : Nat) (lv : List (Nat × Value)) (st : List Value) : Prop :=
  ∀ (p : Program) (l : Launch) (e : Env) (s : State) (m : MethodId) (args : Array Value) (below : List Frame) (meth : Method) (c : Code) (D : va_G) (ad : Nat → Nat) (A : Nat → Prop) (cA : Nat → ClassId) (H : Heap) (locs : List Loc) (ls : Array Slot),
    mh_K own cc nL rt ini n0 Ex p s m args meth c ad A → mh_S nL n0 s D ad A cA sh I L lv H locs ls →
    W p l e R s m args below meth c H locs (sh.length - n0) slots (MQ below (mh_Q D ad A n0 Φ) args s mc ms A) (F0 m pc ls (st.map (mh_v ad)))
section MHK
variable {own : String} {cc : ByteArray} {nL : Nat} {rt : Option FieldType} {ini : Bool} {n0 : Nat} {Ex : mh_X} {p : Program} {s : State} {m : MethodId} {args : Array Value} {meth : Method} {c : Code} {ad : Nat → Nat} {A : Nat → Prop}
theorem mh_K.x (K : mh_K own cc nL rt ini n0 Ex p s m args meth c ad A) : p.tables.exec = Jvm.exec := K.1
theorem mh_K.b (K : mh_K own cc nL rt ini n0 Ex p s m args meth c ad A) : c.code = cc := K.2.1
theorem mh_K.ml (K : mh_K own cc nL rt ini n0 Ex p s m args meth c ad A) : c.maxLocals = nL := K.2.2.1
theorem mh_K.hrt (K : mh_K own cc nL rt ini n0 Ex p s m args meth c ad A) : meth.sig.returnType = rt := K.2.2.2.1
theorem mh_K.locks (K : mh_K own cc nL rt ini n0 Ex p s m args meth c ad A) : meth.locks = false := K.2.2.2.2.1
theorem mh_K.hini (K : mh_K own cc nL rt ini n0 Ex p s m args meth c ad A) : ini = true → meth.name = "<init>" := K.2.2.2.2.2.1
theorem mh_K.hown (K : mh_K own cc nL rt ini n0 Ex p s m args meth c ad A) : s.vm.findClass own = some m.cls := K.2.2.2.2.2.2.1
theorem mh_K.tb (K : mh_K own cc nL rt ini n0 Ex p s m args meth c ad A) : ∀ w ∈ mh_TB, w.before args s = true := K.2.2.2.2.2.2.2.1
theorem mh_K.e (K : mh_K own cc nL rt ini n0 Ex p s m args meth c ad A) : mh_E A ad s := K.2.2.2.2.2.2.2.2.1
theorem mh_K.hA (K : mh_K own cc nL rt ini n0 Ex p s m args meth c ad A) : ∀ q : Nat, A q ↔ mh_A ad n0 s.heap.size q := K.2.2.2.2.2.2.2.2.2.1
theorem mh_K.new (K : mh_K own cc nL rt ini n0 Ex p s m args meth c ad A) : ∀ q : Nat, s.heap.size ≤ q → A q := fun q h => (K.hA q).mpr (Or.inr h)
theorem mh_K.had (K : mh_K own cc nL rt ini n0 Ex p s m args meth c ad A) : ∀ a : Nat, n0 ≤ a → a < 1000 → ad a = s.heap.size + (a - n0) := K.2.2.2.2.2.2.2.2.2.2.1
theorem mh_K.ex (K : mh_K own cc nL rt ini n0 Ex p s m args meth c ad A) : Ex ad A s := K.2.2.2.2.2.2.2.2.2.2.2
variable {D : va_G} {cA : Nat → ClassId} {sh : List mh_C} {I : mh_I} {L : mh_L} {lv : List (Nat × Value)} {H : Heap} {locs : List Loc} {ls : Array Slot}
theorem mh_S.P (S : mh_S nL n0 s D ad A cA sh I L lv H locs ls) : va_P D vwCl (mh_ws ad cA sh I L) H := S.1.1
theorem mh_S.hD (S : mh_S nL n0 s D ad A cA sh I L lv H locs ls) : va_D A (mh_ws ad cA sh I L) := S.1.2.1
theorem mh_S.K (S : mh_S nL n0 s D ad A cA sh I L lv H locs ls) : va_K D vwCl [] s := S.1.2.2.1
theorem mh_S.KA (S : mh_S nL n0 s D ad A cA sh I L lv H locs ls) {a t n : Nat} {r : Nat → Option Nat} (h : sh[a]? = some (.inr (t, n, r))) : va_K D vwCl [(cA a, mh_ty t)] s := S.1.2.2.2 a t n r h
theorem mh_S.S (S : mh_S nL n0 s D ad A cA sh I L lv H locs ls) : va_S A s.heap H locs := S.2.1
theorem mh_S.hlv (S : mh_S nL n0 s D ad A cA sh I L lv H locs ls) : lv_has ls nL (lv.map (fun q => (q.1, mh_v ad q.2))) := S.2.2.1
theorem mh_S.hn0 (S : mh_S nL n0 s D ad A cA sh I L lv H locs ls) : n0 ≤ sh.length := S.2.2.2.1
theorem mh_S.big (S : mh_S nL n0 s D ad A cA sh I L lv H locs ls) : sh.length < 1000 := S.2.2.2.2
theorem mh_S.lvs {lv' : List (Nat × Value)} {ls' : Array Slot} (S : mh_S nL n0 s D ad A cA sh I L lv H locs ls) (h : lv_has ls' nL (lv'.map (fun q => (q.1, mh_v ad q.2)))) : mh_S nL n0 s D ad A cA sh I L lv' H locs ls' := ⟨S.1, S.2.1, h, S.2.2.2⟩
end MHK
theorem mh_v_cat (ad : Nat → Nat) (v : Value) : (mh_v ad v).category = v.category := by cases v <;> rfl
theorem mh_cats (ad : Nat → Nat) (st : List Value) : ((st.map (mh_v ad)).map fun v => v.category) = st.map fun v => v.category := by
  rw [List.map_map]
  exact List.map_congr_left fun v _ => mh_v_cat ad v
def mh_st (i : Nat) (v : Value) (lv : List (Nat × Value)) : List (Nat × Value) := (i, v) :: lv.filter (fun q => !(q.1 == i) && !(q.1 + 1 == i && q.2.category == 2))
def mh_stl (i : Nat) (v : Value) (lv : List (Nat × Value)) : List (Nat × Value) := (i, v) :: lv.filter (fun q => !(q.1 == i) && (!(q.1 == i + 1) && !(q.1 + 1 == i && q.2.category == 2)))
theorem mh_st_map (ad : Nat → Nat) (i : Nat) (v : Value) (lv : List (Nat × Value)) : (i, mh_v ad v) :: (lv.map (fun q => (q.1, mh_v ad q.2))).filter (fun q => !(q.1 == i) && !(q.1 + 1 == i && q.2.category == 2)) = (mh_st i v lv).map (fun q => (q.1, mh_v ad q.2)) := by
  rw [mh_st, List.map_cons, List.filter_map]
  congr 2
  apply List.filter_congr
  intro q _
  simp only [Function.comp, mh_v_cat]
theorem mh_stl_map (ad : Nat → Nat) (i : Nat) (v : Value) (lv : List (Nat × Value)) : (i, mh_v ad v) :: (lv.map (fun q => (q.1, mh_v ad q.2))).filter (fun q => !(q.1 == i) && (!(q.1 == i + 1) && !(q.1 + 1 == i && q.2.category == 2))) = (mh_stl i v lv).map (fun q => (q.1, mh_v ad q.2)) := by
  rw [mh_stl, List.map_cons, List.filter_map]
  congr 2
  apply List.filter_congr
  intro q _
  simp only [Function.comp, mh_v_cat]
theorem mh_lvm (ad : Nat → Nat) {lv : List (Nat × Value)} {i : Nat} {v : Value} (j : Nat) (h : lv[j]? = some (i, v)) : (lv.map (fun q => (q.1, mh_v ad q.2)))[j]? = some (i, mh_v ad v) := by
  rw [List.getElem?_map, h]; rfl
theorem mh_lv {ad : Nat → Nat} {lv : List (Nat × Value)} {ls : Array Slot} {nL i : Nat} {v : Value} (hl : lv_has ls nL (lv.map (fun q => (q.1, mh_v ad q.2)))) (j : Nat) (h : lv[j]? = some (i, v)) : ls[i]? = some (.val (mh_v ad v)) := lv_at hl j (mh_lvm ad j h)
theorem mh_pick_map (ad : Nat → Nat) (lv : List (Nat × Value)) (ks : List Nat) : lv_pick (lv.map (fun q => (q.1, mh_v ad q.2))) ks = (lv_pick lv ks).map (fun q => (q.1, mh_v ad q.2)) := by
  unfold lv_pick
  induction ks with
  | nil => rfl
  | cons k ks ih =>
    rw [List.filterMap_cons, List.filterMap_cons, List.getElem?_map]
    cases lv[k]? with
    | none => exact ih
    | some q => simp only [Option.map_some, List.map_cons]; rw [ih]
