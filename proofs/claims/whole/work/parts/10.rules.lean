/-! The judgement V: from every heap that holds the world w, at pc, with locals lv and stack st, the method comes to its end as xQ says. A rule an instruction. -/
abbrev XX : Type := va_G × List (ClassId × FieldType) × Launch × Room × va_W × (Array Value → List Frame → State → State → Prop) × (Array Value → State → Prop)
abbrev KI : Type := ByteArray × List Cond × String × Nat × Option FieldType × String
abbrev xD (x : XX) : va_G := x.1
abbrev xT (x : XX) : List (ClassId × FieldType) := x.2.1
abbrev xl (x : XX) : Launch := x.2.2.1
abbrev xR (x : XX) : Room := x.2.2.2.1
abbrev xw (x : XX) : va_W := x.2.2.2.2.1
abbrev xQ (x : XX) : Array Value → List Frame → State → State → Prop := x.2.2.2.2.2.1
abbrev xE (x : XX) : Array Value → State → Prop := x.2.2.2.2.2.2
abbrev kT (k : KI) : List Cond := k.2.1
abbrev kO (k : KI) : String := k.2.2.1
abbrev kN (k : KI) : Nat := k.2.2.2.1
abbrev kR (k : KI) : Option FieldType := k.2.2.2.2.1
abbrev kM (k : KI) : String := k.2.2.2.2.2
/-- the words on private members of nest mates -/
def nestF : List (String × Nat × String × String × String) := [("StateTypes$Running", 57, "StateTypes$Program", "kinds", "[I"), ("StateTypes$Checking", 69, "StateTypes$Program", "kinds", "[I"), ("StateTypes$Checking", 56, "StateTypes$Program", "numbers", "[I"), ("StateTypes$Running", 76, "StateTypes$Program", "numbers", "[I"), ("StateTypes$Running", 65, "StateTypes$Program", "jumps", "[I"), ("StateTypes$Checking", 49, "StateTypes$Program", "entries", "I"), ("StateTypes$Running", 54, "StateTypes$Program", "statements", "I"), ("StateTypes$Checking", 40, "StateTypes$Program", "statements", "I"), ("StateTypes", 80, "StateTypes$Program", "statements", "I"), ("StateTypes", 88, "StateTypes$Checking", "place", "I"), ("StateTypes", 113, "StateTypes$Running", "fault", "I"), ("StateTypes", 124, "StateTypes$Running", "place", "I"), ("StateTypes", 121, "StateTypes$Running", "stepsDone", "I"), ("StateTypes", 125, "StateTypes$Running", "all", "I")]
def nestM : List (String × Nat × MethodName) := [(RX2, 25, yX4_isBelow), (RX1, 40, yX4_isBelow), (RX0, 36, yX4_isBelow), (RX1, 60, yX4_heldBy), (RX1, 64, yX4_objectOf), (RX1, 67, yX4_withHeld), (RX1, 76, yX4_protocolOf), (RX2, 29, yX4_heldBy)]
def NW (U : State) : Prop := (∀ q ∈ nestF, va_Nw (.fieldLinkNest q.1 q.2.1 q.2.2.1 q.2.2.2.1 q.2.2.2.2 "StateTypes") U) ∧ ∀ q ∈ nestM, va_Nw (.methodLinkNest q.1 q.2.1 q.2.2 "StateTypes") U
theorem NW.warm {s U : State} (hW : s.WarmedH U.vm) (h : NW s) : NW U := ⟨fun q hq => va_Nw.warmF hW (h.1 q hq), fun q hq => va_Nw.warmM hW (h.2 q hq)⟩
theorem NW.same {s U : State} (hv : s.vm = U.vm) (h : NW s) : NW U := ⟨fun q hq => va_Nw.same rfl hv (h.1 q hq), fun q hq => va_Nw.same rfl hv (h.2 q hq)⟩
def zok (x : XX) (k : KI) (p : Program) (s : State) (m : MethodId) (args : Array Value) (meth : Method) (c : Code) : Prop :=
  p.tables.exec = Jvm.exec ∧ c.code = k.1 ∧ c.maxLocals = kN k ∧ s.vm.findClass (kO k) = some m.cls ∧ (∀ w ∈ kT k, w.before args s = true) ∧ va_K (xD x) vwCl (xT x) s ∧ NW s ∧ meth.locks = false ∧ meth.sig.returnType = kR k ∧ meth.name = kM k ∧ xE x args s
def V (x : XX) (k : KI) (cs ss : Nat) (w : va_W) (pc : Nat) (lv : List (Nat × Value)) (st : List Value) : Prop :=
  ∀ (p : Program) (e : Env) (s : State) (m : MethodId) (args : Array Value) (below : List Frame) (meth : Method) (c : Code), zok x k p s m args meth c →
  ∀ (H : Heap) (locs : List Loc) (ls : Array Slot), va_P (xD x) vwCl w H → va_D (va_A (xw x) s.heap.size) w → va_S (va_A (xw x) s.heap.size) s.heap H locs → lv_has ls (kN k) lv →
  W p (xl x) e (xR x) s m args below meth c H locs cs ss (xQ x args below s) (F0 m pc ls st)
section RULES
variable {x : XX} {k : KI} {cs ss : Nat} {w : va_W} {pc : Nat} {lv : List (Nat × Value)} {st : List Value}
theorem lvl {ls : Array Slot} {n : Nat} {lv : List (Nat × Value)} (h : lv_has ls n lv) {i : Nat} {v : Value} (hk : lv.lookup i = some v) : ls[i]? = some (.val v) := by
  refine h.2.2 (i, v) ?_
  clear h
  induction lv with
  | nil => cases hk
  | cons q t ih =>
    obtain ⟨j, u⟩ := q
    by_cases hj : i = j
    · subst hj
      simp [List.lookup] at hk
      subst hk
      exact List.mem_cons_self
    · have : (i == j) = false := by simpa using hj
      simp [List.lookup, this] at hk
      exact List.mem_cons_of_mem _ (ih hk)

theorem v_iconst {n : Int} {v : Int32} (pc' : Nat) (hp : pc + 1 = pc') (hd : decode k.1 pc = .ok (.iconst n, 1)) (hv : Int32.ofInt n = v) (h : V x k cs ss w pc' lv (.int v :: st)) : V x k cs ss w pc lv (st) := by
  subst hp
  intro p e s m args below meth c Z H locs ls hP hD hS hl
  exact lv_iconst Z.1 Z.2.1 hd hv (h p e s m args below meth c Z H locs ls hP hD hS hl)
theorem v_bipush {n : Int} {v : Int32} (pc' : Nat) (hp : pc + 2 = pc') (hd : decode k.1 pc = .ok (.bipush n, 2)) (hv : (Int8.ofInt n).toInt32 = v) (h : V x k cs ss w pc' lv (.int v :: st)) : V x k cs ss w pc lv (st) := by
  subst hp
  intro p e s m args below meth c Z H locs ls hP hD hS hl
  exact lv_bipush Z.1 Z.2.1 hd hv (h p e s m args below meth c Z H locs ls hP hD hS hl)
theorem v_sipush {n : Int} {v : Int32} (pc' : Nat) (hp : pc + 3 = pc') (hd : decode k.1 pc = .ok (.sipush n, 3)) (hv : (Int16.ofInt n).toInt32 = v) (h : V x k cs ss w pc' lv (.int v :: st)) : V x k cs ss w pc lv (st) := by
  subst hp
  intro p e s m args below meth c Z H locs ls hP hD hS hl
  exact lv_sipush Z.1 Z.2.1 hd hv (h p e s m args below meth c Z H locs ls hP hD hS hl)
theorem v_ldc {i : Nat} {v : Int32} (pc' : Nat) (hp : pc + 2 = pc') (hd : decode k.1 pc = .ok (.ldc i, 2)) (hc : Cond.constant (kO k) i v ∈ kT k) (h : V x k cs ss w pc' lv (.int v :: st)) : V x k cs ss w pc lv (st) := by
  subst hp
  intro p e s m args below meth c Z H locs ls hP hD hS hl
  exact lv_ldc Z.1 Z.2.1 Z.2.2.2.1 (Z.2.2.2.2.1 _ hc) hd (h p e s m args below meth c Z H locs ls hP hD hS hl)
theorem v_iload_n {f : Fin 4} {i : Nat} {v : Int32} (pc' : Nat) (hp : pc + 1 = pc') (hd : decode k.1 pc = .ok (.iload_n f, 1)) (hi : (f : Nat) = i) (hv : lv.lookup i = some (.int v)) (h : V x k cs ss w pc' lv (.int v :: st)) : V x k cs ss w pc lv (st) := by
  subst hp
  intro p e s m args below meth c Z H locs ls hP hD hS hl
  exact lv_iload_n Z.1 Z.2.1 hd hi (lvl hl hv) (h p e s m args below meth c Z H locs ls hP hD hS hl)
theorem v_iload {i : Nat} {v : Int32} (pc' : Nat) (hp : pc + 2 = pc') (hd : decode k.1 pc = .ok (.iload i, 2)) (hv : lv.lookup i = some (.int v)) (h : V x k cs ss w pc' lv (.int v :: st)) : V x k cs ss w pc lv (st) := by
  subst hp
  intro p e s m args below meth c Z H locs ls hP hD hS hl
  exact lv_iload Z.1 Z.2.1 hd (lvl hl hv) (h p e s m args below meth c Z H locs ls hP hD hS hl)
theorem v_aload_n {f : Fin 4} {i a : Nat} (pc' : Nat) (hp : pc + 1 = pc') (hd : decode k.1 pc = .ok (.aload_n f, 1)) (hi : (f : Nat) = i) (hv : lv.lookup i = some (.ref a)) (h : V x k cs ss w pc' lv (.ref a :: st)) : V x k cs ss w pc lv (st) := by
  subst hp
  intro p e s m args below meth c Z H locs ls hP hD hS hl
  exact lv_aload_n Z.1 Z.2.1 hd hi (lvl hl hv) (h p e s m args below meth c Z H locs ls hP hD hS hl)
theorem v_aload {i a : Nat} (pc' : Nat) (hp : pc + 2 = pc') (hd : decode k.1 pc = .ok (.aload i, 2)) (hv : lv.lookup i = some (.ref a)) (h : V x k cs ss w pc' lv (.ref a :: st)) : V x k cs ss w pc lv (st) := by
  subst hp
  intro p e s m args below meth c Z H locs ls hP hD hS hl
  exact lv_aload Z.1 Z.2.1 hd (lvl hl hv) (h p e s m args below meth c Z H locs ls hP hD hS hl)
theorem v_istore_n {f : Fin 4} {i : Nat} {v : Int32} {lv' : List (Nat × Value)} (pc' : Nat) (hp : pc + 1 = pc') (hd : decode k.1 pc = .ok (.istore_n f, 1)) (hi : (f : Nat) = i) (hn : i < kN k) (hv : (i, Value.int v) :: lv.filter (fun q => !(q.1 == i) && !(q.1 + 1 == i && q.2.category == 2)) = lv') (h : V x k cs ss w pc' lv' st) : V x k cs ss w pc lv (Value.int v :: st) := by
  subst hp
  intro p e s m args below meth c Z H locs ls hP hD hS hl
  exact lv_istore_n Z.1 Z.2.1 hd hi hl hn hv (fun ls' hl' => h p e s m args below meth c Z H locs ls' hP hD hS hl')
theorem v_istore {i : Nat} {v : Int32} {lv' : List (Nat × Value)} (pc' : Nat) (hp : pc + 2 = pc') (hd : decode k.1 pc = .ok (.istore i, 2)) (hn : i < kN k) (hv : (i, Value.int v) :: lv.filter (fun q => !(q.1 == i) && !(q.1 + 1 == i && q.2.category == 2)) = lv') (h : V x k cs ss w pc' lv' st) : V x k cs ss w pc lv (Value.int v :: st) := by
  subst hp
  intro p e s m args below meth c Z H locs ls hP hD hS hl
  exact lv_istore Z.1 Z.2.1 hd hl hn hv (fun ls' hl' => h p e s m args below meth c Z H locs ls' hP hD hS hl')
theorem v_astore_n {f : Fin 4} {i : Nat} {v : Nat} {lv' : List (Nat × Value)} (pc' : Nat) (hp : pc + 1 = pc') (hd : decode k.1 pc = .ok (.astore_n f, 1)) (hi : (f : Nat) = i) (hn : i < kN k) (hv : (i, Value.ref v) :: lv.filter (fun q => !(q.1 == i) && !(q.1 + 1 == i && q.2.category == 2)) = lv') (h : V x k cs ss w pc' lv' st) : V x k cs ss w pc lv (Value.ref v :: st) := by
  subst hp
  intro p e s m args below meth c Z H locs ls hP hD hS hl
  exact lv_astore_n Z.1 Z.2.1 hd hi hl hn hv (fun ls' hl' => h p e s m args below meth c Z H locs ls' hP hD hS hl')
theorem v_astore {i : Nat} {v : Nat} {lv' : List (Nat × Value)} (pc' : Nat) (hp : pc + 2 = pc') (hd : decode k.1 pc = .ok (.astore i, 2)) (hn : i < kN k) (hv : (i, Value.ref v) :: lv.filter (fun q => !(q.1 == i) && !(q.1 + 1 == i && q.2.category == 2)) = lv') (h : V x k cs ss w pc' lv' st) : V x k cs ss w pc lv (Value.ref v :: st) := by
  subst hp
  intro p e s m args below meth c Z H locs ls hP hD hS hl
  exact lv_astore Z.1 Z.2.1 hd hl hn hv (fun ls' hl' => h p e s m args below meth c Z H locs ls' hP hD hS hl')
theorem v_iinc {i : Nat} {n : Int} {a v : Int32} {lv' : List (Nat × Value)} (pc' : Nat) (hp : pc + 3 = pc') (hd : decode k.1 pc = .ok (.iinc i n, 3)) (q : Nat) (hq : lv[q]? = some (i, .int a)) (hav : a + Int32.ofInt n = v) (hn : i < kN k) (hv : (i, Value.int v) :: lv.filter (fun q => !(q.1 == i) && !(q.1 + 1 == i && q.2.category == 2)) = lv') (h : V x k cs ss w pc' lv' st) : V x k cs ss w pc lv st := by
  subst hp
  intro p e s m args below meth c Z H locs ls hP hD hS hl
  exact lv_iinc Z.1 Z.2.1 hd hl hq hav hn hv (fun ls' hl' => h p e s m args below meth c Z H locs ls' hP hD hS hl')
theorem v_lv {lv' : List (Nat × Value)} (is : List Nat) (hv : lv_pick lv is = lv') (h : V x k cs ss w pc lv' st) : V x k cs ss w pc lv st := by
  intro p e s m args below meth c Z H locs ls hP hD hS hl
  exact h p e s m args below meth c Z H locs ls hP hD hS (lv_sub hl is hv)
theorem v_w {w' : va_W} (hw : w = w') (h : V x k cs ss w' pc lv st) : V x k cs ss w pc lv st := by subst hw; exact h
theorem v_st {st' : List Value} (hs : st = st') (h : V x k cs ss w pc lv st') : V x k cs ss w pc lv st := by subst hs; exact h
theorem v_top {v v' : Int32} (hs : v = v') (h : V x k cs ss w pc lv (.int v' :: st)) : V x k cs ss w pc lv (.int v :: st) := by subst hs; exact h
theorem v_iadd {a b : Int32} (pc' : Nat) (hp : pc + 1 = pc') (hd : decode k.1 pc = .ok (.iadd, 1)) (h : V x k cs ss w pc' lv (.int (a + b) :: st)) : V x k cs ss w pc lv (.int b :: .int a :: st) := by
  subst hp
  intro p e s m args below meth c Z H locs ls hP hD hS hl
  exact lv_iadd Z.1 Z.2.1 hd (h p e s m args below meth c Z H locs ls hP hD hS hl)
theorem v_isub {a b : Int32} (pc' : Nat) (hp : pc + 1 = pc') (hd : decode k.1 pc = .ok (.isub, 1)) (h : V x k cs ss w pc' lv (.int (a - b) :: st)) : V x k cs ss w pc lv (.int b :: .int a :: st) := by
  subst hp
  intro p e s m args below meth c Z H locs ls hP hD hS hl
  exact lv_isub Z.1 Z.2.1 hd (h p e s m args below meth c Z H locs ls hP hD hS hl)
theorem v_imul {a b : Int32} (pc' : Nat) (hp : pc + 1 = pc') (hd : decode k.1 pc = .ok (.imul, 1)) (h : V x k cs ss w pc' lv (.int (a * b) :: st)) : V x k cs ss w pc lv (.int b :: .int a :: st) := by
  subst hp
  intro p e s m args below meth c Z H locs ls hP hD hS hl
  exact lv_imul Z.1 Z.2.1 hd (h p e s m args below meth c Z H locs ls hP hD hS hl)
theorem v_iand {a b : Int32} (pc' : Nat) (hp : pc + 1 = pc') (hd : decode k.1 pc = .ok (.iand, 1)) (h : V x k cs ss w pc' lv (.int (a &&& b) :: st)) : V x k cs ss w pc lv (.int b :: .int a :: st) := by
  subst hp
  intro p e s m args below meth c Z H locs ls hP hD hS hl
  exact lv_iand Z.1 Z.2.1 hd (h p e s m args below meth c Z H locs ls hP hD hS hl)
theorem v_ior {a b : Int32} (pc' : Nat) (hp : pc + 1 = pc') (hd : decode k.1 pc = .ok (.ior, 1)) (h : V x k cs ss w pc' lv (.int (a ||| b) :: st)) : V x k cs ss w pc lv (.int b :: .int a :: st) := by
  subst hp
  intro p e s m args below meth c Z H locs ls hP hD hS hl
  exact lv_ior Z.1 Z.2.1 hd (h p e s m args below meth c Z H locs ls hP hD hS hl)
theorem v_ixor {a b : Int32} (pc' : Nat) (hp : pc + 1 = pc') (hd : decode k.1 pc = .ok (.ixor, 1)) (h : V x k cs ss w pc' lv (.int (a ^^^ b) :: st)) : V x k cs ss w pc lv (.int b :: .int a :: st) := by
  subst hp
  intro p e s m args below meth c Z H locs ls hP hD hS hl
  exact lv_ixor Z.1 Z.2.1 hd (h p e s m args below meth c Z H locs ls hP hD hS hl)
theorem v_idiv {a b : Int32} (pc' : Nat) (hp : pc + 1 = pc') (hd : decode k.1 pc = .ok (.idiv, 1)) (hne : ¬ b = 0) (h : V x k cs ss w pc' lv (.int (a / b) :: st)) : V x k cs ss w pc lv (.int b :: .int a :: st) := by
  subst hp
  intro p e s m args below meth c Z H locs ls hP hD hS hl
  exact lv_idiv Z.1 Z.2.1 hd hne (h p e s m args below meth c Z H locs ls hP hD hS hl)
theorem v_irem {a b : Int32} (pc' : Nat) (hp : pc + 1 = pc') (hd : decode k.1 pc = .ok (.irem, 1)) (hne : ¬ b = 0) (h : V x k cs ss w pc' lv (.int (a - a / b * b) :: st)) : V x k cs ss w pc lv (.int b :: .int a :: st) := by
  subst hp
  intro p e s m args below meth c Z H locs ls hP hD hS hl
  exact lv_irem Z.1 Z.2.1 hd hne (h p e s m args below meth c Z H locs ls hP hD hS hl)
theorem v_ineg {a : Int32} (pc' : Nat) (hp : pc + 1 = pc') (hd : decode k.1 pc = .ok (.ineg, 1)) (h : V x k cs ss w pc' lv (.int (-a) :: st)) : V x k cs ss w pc lv (.int a :: st) := by
  subst hp
  intro p e s m args below meth c Z H locs ls hP hD hS hl
  exact lv_ineg Z.1 Z.2.1 hd (h p e s m args below meth c Z H locs ls hP hD hS hl)
theorem v_iushr {a b v : Int32} (pc' : Nat) (hp : pc + 1 = pc') (hd : decode k.1 pc = .ok (.iushr, 1)) (hv : (a.toUInt32 >>> (b.toUInt32 &&& Int32.toUInt32 31)).toInt32 = v) (h : V x k cs ss w pc' lv (.int v :: st)) : V x k cs ss w pc lv (.int b :: .int a :: st) := by
  subst hp
  intro p e s m args below meth c Z H locs ls hP hD hS hl
  exact lv_iushr Z.1 Z.2.1 hd hv (h p e s m args below meth c Z H locs ls hP hD hS hl)
theorem v_ishl {a b : Int32} (pc' : Nat) (hp : pc + 1 = pc') (hd : decode k.1 pc = .ok (.ishl, 1)) (h : V x k cs ss w pc' lv (.int (a <<< (b &&& 31)) :: st)) : V x k cs ss w pc lv (.int b :: .int a :: st) := by
  subst hp
  intro p e s m args below meth c Z H locs ls hP hD hS hl
  exact lv_ishl Z.1 Z.2.1 hd (h p e s m args below meth c Z H locs ls hP hD hS hl)
theorem v_ishr {a b : Int32} (pc' : Nat) (hp : pc + 1 = pc') (hd : decode k.1 pc = .ok (.ishr, 1)) (h : V x k cs ss w pc' lv (.int (a >>> (b &&& 31)) :: st)) : V x k cs ss w pc lv (.int b :: .int a :: st) := by
  subst hp
  intro p e s m args below meth c Z H locs ls hP hD hS hl
  exact lv_ishr Z.1 Z.2.1 hd (h p e s m args below meth c Z H locs ls hP hD hS hl)
theorem v_dup {va : Value} (pc' : Nat) (hp : pc + 1 = pc') (hd : decode k.1 pc = .ok (.dup, 1)) (hc : va.category = 1) (h : V x k cs ss w pc' lv (va :: va :: st)) : V x k cs ss w pc lv (va :: st) := by
  subst hp
  intro p e s m args below meth c Z H locs ls hP hD hS hl
  exact lv_dup Z.1 Z.2.1 hd hc (h p e s m args below meth c Z H locs ls hP hD hS hl)
theorem v_pop {va : Value} (pc' : Nat) (hp : pc + 1 = pc') (hd : decode k.1 pc = .ok (.pop, 1)) (hc : va.category = 1) (h : V x k cs ss w pc' lv (st)) : V x k cs ss w pc lv (va :: st) := by
  subst hp
  intro p e s m args below meth c Z H locs ls hP hD hS hl
  exact lv_pop Z.1 Z.2.1 hd hc (h p e s m args below meth c Z H locs ls hP hD hS hl)
theorem v_dup_x1 {va vb : Value} (pc' : Nat) (hp : pc + 1 = pc') (hd : decode k.1 pc = .ok (.dup_x1, 1)) (hc : va.category = 1) (hc2 : vb.category = 1) (h : V x k cs ss w pc' lv (va :: vb :: va :: st)) : V x k cs ss w pc lv (va :: vb :: st) := by
  subst hp
  intro p e s m args below meth c Z H locs ls hP hD hS hl
  exact lv_dup_x1 Z.1 Z.2.1 hd hc hc2 (h p e s m args below meth c Z H locs ls hP hD hS hl)
theorem v_iaddN {a b : Nat} (pc' : Nat) (hp : pc + 1 = pc') (hd : decode k.1 pc = .ok (.iadd, 1)) (h : V x k cs ss w pc' lv (.int (nI (a + b)) :: st)) : V x k cs ss w pc lv (.int (nI b) :: .int (nI a) :: st) := v_iadd pc' hp hd (by rw [nI_add]; exact h)
theorem v_isubN {a b : Nat} (pc' : Nat) (hp : pc + 1 = pc') (hd : decode k.1 pc = .ok (.isub, 1)) (hle : b ≤ a) (h : V x k cs ss w pc' lv (.int (nI (a - b)) :: st)) : V x k cs ss w pc lv (.int (nI b) :: .int (nI a) :: st) := v_isub pc' hp hd (by rw [pk_sub hle]; exact h)
theorem v_imulN {a b : Nat} (pc' : Nat) (hp : pc + 1 = pc') (hd : decode k.1 pc = .ok (.imul, 1)) (h : V x k cs ss w pc' lv (.int (nI (a * b)) :: st)) : V x k cs ss w pc lv (.int (nI b) :: .int (nI a) :: st) := v_imul pc' hp hd (by rw [pk_mul]; exact h)
theorem v_idivN {a b : Nat} (pc' : Nat) (hp : pc + 1 = pc') (hd : decode k.1 pc = .ok (.idiv, 1)) (ha : a < 2 ^ 31) (h0 : 0 < b) (hb : b < 2 ^ 31) (h : V x k cs ss w pc' lv (.int (nI (a / b)) :: st)) : V x k cs ss w pc lv (.int (nI b) :: .int (nI a) :: st) := v_idiv pc' hp hd (nI_ne0 h0 hb) (by rw [pk_div ha h0 hb]; exact h)
theorem v_iremN {a b : Nat} (pc' : Nat) (hp : pc + 1 = pc') (hd : decode k.1 pc = .ok (.irem, 1)) (ha : a < 2 ^ 31) (h0 : 0 < b) (hb : b < 2 ^ 31) (h : V x k cs ss w pc' lv (.int (nI (a % b)) :: st)) : V x k cs ss w pc lv (.int (nI b) :: .int (nI a) :: st) := v_irem pc' hp hd (nI_ne0 h0 hb) (by rw [pk_rem ha h0 hb]; exact h)
theorem v_goto {off : Int} (tgt : Nat) (hd : decode k.1 pc = .ok (.goto off, 3)) (ht : (pc : Int) + off = (tgt : Int)) (h : V x k cs ss w tgt lv st) : V x k cs ss w pc lv st := by
  intro p e s m args below meth c Z H locs ls hP hD hS hl
  exact lv_goto Z.1 Z.2.1 hd ht (h p e s m args below meth c Z H locs ls hP hD hS hl)
theorem v_if_eq {a : Int32} {off : Int} (tgt pc' : Nat) (hp : pc + 3 = pc') (hd : decode k.1 pc = .ok (.ifCond .eq off, 3)) (ht : (pc : Int) + off = (tgt : Int)) (h1 : a = 0 → V x k cs ss w tgt lv st) (h2 : ¬ a = 0 → V x k cs ss w pc' lv st) : V x k cs ss w pc lv (.int a :: st) := by
  subst hp
  intro p e s m args below meth c Z H locs ls hP hD hS hl
  exact lv_if_eq Z.1 Z.2.1 hd ht (fun q => h1 q p e s m args below meth c Z H locs ls hP hD hS hl) (fun q => h2 q p e s m args below meth c Z H locs ls hP hD hS hl)
theorem v_if_ne {a : Int32} {off : Int} (tgt pc' : Nat) (hp : pc + 3 = pc') (hd : decode k.1 pc = .ok (.ifCond .ne off, 3)) (ht : (pc : Int) + off = (tgt : Int)) (h1 : ¬ a = 0 → V x k cs ss w tgt lv st) (h2 : a = 0 → V x k cs ss w pc' lv st) : V x k cs ss w pc lv (.int a :: st) := by
  subst hp
  intro p e s m args below meth c Z H locs ls hP hD hS hl
  exact lv_if_ne Z.1 Z.2.1 hd ht (fun q => h1 q p e s m args below meth c Z H locs ls hP hD hS hl) (fun q => h2 q p e s m args below meth c Z H locs ls hP hD hS hl)
theorem v_if_lt {a : Int32} {off : Int} (tgt pc' : Nat) (hp : pc + 3 = pc') (hd : decode k.1 pc = .ok (.ifCond .lt off, 3)) (ht : (pc : Int) + off = (tgt : Int)) (h1 : a < 0 → V x k cs ss w tgt lv st) (h2 : ¬ a < 0 → V x k cs ss w pc' lv st) : V x k cs ss w pc lv (.int a :: st) := by
  subst hp
  intro p e s m args below meth c Z H locs ls hP hD hS hl
  exact lv_if_lt Z.1 Z.2.1 hd ht (fun q => h1 q p e s m args below meth c Z H locs ls hP hD hS hl) (fun q => h2 q p e s m args below meth c Z H locs ls hP hD hS hl)
theorem v_if_ge {a : Int32} {off : Int} (tgt pc' : Nat) (hp : pc + 3 = pc') (hd : decode k.1 pc = .ok (.ifCond .ge off, 3)) (ht : (pc : Int) + off = (tgt : Int)) (h1 : 0 ≤ a → V x k cs ss w tgt lv st) (h2 : ¬ 0 ≤ a → V x k cs ss w pc' lv st) : V x k cs ss w pc lv (.int a :: st) := by
  subst hp
  intro p e s m args below meth c Z H locs ls hP hD hS hl
  exact lv_if_ge Z.1 Z.2.1 hd ht (fun q => h1 q p e s m args below meth c Z H locs ls hP hD hS hl) (fun q => h2 q p e s m args below meth c Z H locs ls hP hD hS hl)
theorem v_if_gt {a : Int32} {off : Int} (tgt pc' : Nat) (hp : pc + 3 = pc') (hd : decode k.1 pc = .ok (.ifCond .gt off, 3)) (ht : (pc : Int) + off = (tgt : Int)) (h1 : 0 < a → V x k cs ss w tgt lv st) (h2 : ¬ 0 < a → V x k cs ss w pc' lv st) : V x k cs ss w pc lv (.int a :: st) := by
  subst hp
  intro p e s m args below meth c Z H locs ls hP hD hS hl
  exact lv_if_gt Z.1 Z.2.1 hd ht (fun q => h1 q p e s m args below meth c Z H locs ls hP hD hS hl) (fun q => h2 q p e s m args below meth c Z H locs ls hP hD hS hl)
theorem v_if_le {a : Int32} {off : Int} (tgt pc' : Nat) (hp : pc + 3 = pc') (hd : decode k.1 pc = .ok (.ifCond .le off, 3)) (ht : (pc : Int) + off = (tgt : Int)) (h1 : a ≤ 0 → V x k cs ss w tgt lv st) (h2 : ¬ a ≤ 0 → V x k cs ss w pc' lv st) : V x k cs ss w pc lv (.int a :: st) := by
  subst hp
  intro p e s m args below meth c Z H locs ls hP hD hS hl
  exact lv_if_le Z.1 Z.2.1 hd ht (fun q => h1 q p e s m args below meth c Z H locs ls hP hD hS hl) (fun q => h2 q p e s m args below meth c Z H locs ls hP hD hS hl)
theorem v_icmp_eq {a b : Int32} {off : Int} (tgt pc' : Nat) (hp : pc + 3 = pc') (hd : decode k.1 pc = .ok (.if_icmp .eq off, 3)) (ht : (pc : Int) + off = (tgt : Int)) (h1 : a = b → V x k cs ss w tgt lv st) (h2 : ¬ a = b → V x k cs ss w pc' lv st) : V x k cs ss w pc lv (.int b :: .int a :: st) := by
  subst hp
  intro p e s m args below meth c Z H locs ls hP hD hS hl
  exact lv_icmp_eq Z.1 Z.2.1 hd ht (fun q => h1 q p e s m args below meth c Z H locs ls hP hD hS hl) (fun q => h2 q p e s m args below meth c Z H locs ls hP hD hS hl)
theorem v_icmp_ne {a b : Int32} {off : Int} (tgt pc' : Nat) (hp : pc + 3 = pc') (hd : decode k.1 pc = .ok (.if_icmp .ne off, 3)) (ht : (pc : Int) + off = (tgt : Int)) (h1 : ¬ a = b → V x k cs ss w tgt lv st) (h2 : a = b → V x k cs ss w pc' lv st) : V x k cs ss w pc lv (.int b :: .int a :: st) := by
  subst hp
  intro p e s m args below meth c Z H locs ls hP hD hS hl
  exact lv_icmp_ne Z.1 Z.2.1 hd ht (fun q => h1 q p e s m args below meth c Z H locs ls hP hD hS hl) (fun q => h2 q p e s m args below meth c Z H locs ls hP hD hS hl)
theorem v_icmp_lt {a b : Int32} {off : Int} (tgt pc' : Nat) (hp : pc + 3 = pc') (hd : decode k.1 pc = .ok (.if_icmp .lt off, 3)) (ht : (pc : Int) + off = (tgt : Int)) (h1 : a < b → V x k cs ss w tgt lv st) (h2 : ¬ a < b → V x k cs ss w pc' lv st) : V x k cs ss w pc lv (.int b :: .int a :: st) := by
  subst hp
  intro p e s m args below meth c Z H locs ls hP hD hS hl
  exact lv_icmp_lt Z.1 Z.2.1 hd ht (fun q => h1 q p e s m args below meth c Z H locs ls hP hD hS hl) (fun q => h2 q p e s m args below meth c Z H locs ls hP hD hS hl)
theorem v_icmp_ge {a b : Int32} {off : Int} (tgt pc' : Nat) (hp : pc + 3 = pc') (hd : decode k.1 pc = .ok (.if_icmp .ge off, 3)) (ht : (pc : Int) + off = (tgt : Int)) (h1 : b ≤ a → V x k cs ss w tgt lv st) (h2 : ¬ b ≤ a → V x k cs ss w pc' lv st) : V x k cs ss w pc lv (.int b :: .int a :: st) := by
  subst hp
  intro p e s m args below meth c Z H locs ls hP hD hS hl
  exact lv_icmp_ge Z.1 Z.2.1 hd ht (fun q => h1 q p e s m args below meth c Z H locs ls hP hD hS hl) (fun q => h2 q p e s m args below meth c Z H locs ls hP hD hS hl)
theorem v_icmp_gt {a b : Int32} {off : Int} (tgt pc' : Nat) (hp : pc + 3 = pc') (hd : decode k.1 pc = .ok (.if_icmp .gt off, 3)) (ht : (pc : Int) + off = (tgt : Int)) (h1 : b < a → V x k cs ss w tgt lv st) (h2 : ¬ b < a → V x k cs ss w pc' lv st) : V x k cs ss w pc lv (.int b :: .int a :: st) := by
  subst hp
  intro p e s m args below meth c Z H locs ls hP hD hS hl
  exact lv_icmp_gt Z.1 Z.2.1 hd ht (fun q => h1 q p e s m args below meth c Z H locs ls hP hD hS hl) (fun q => h2 q p e s m args below meth c Z H locs ls hP hD hS hl)
theorem v_icmp_le {a b : Int32} {off : Int} (tgt pc' : Nat) (hp : pc + 3 = pc') (hd : decode k.1 pc = .ok (.if_icmp .le off, 3)) (ht : (pc : Int) + off = (tgt : Int)) (h1 : a ≤ b → V x k cs ss w tgt lv st) (h2 : ¬ a ≤ b → V x k cs ss w pc' lv st) : V x k cs ss w pc lv (.int b :: .int a :: st) := by
  subst hp
  intro p e s m args below meth c Z H locs ls hP hD hS hl
  exact lv_icmp_le Z.1 Z.2.1 hd ht (fun q => h1 q p e s m args below meth c Z H locs ls hP hD hS hl) (fun q => h2 q p e s m args below meth c Z H locs ls hP hD hS hl)
theorem v_icmp_eqN {a b : Nat} {off : Int} (tgt pc' : Nat) (hp : pc + 3 = pc') (hd : decode k.1 pc = .ok (.if_icmp .eq off, 3)) (ht : (pc : Int) + off = (tgt : Int)) (ha : a < 2 ^ 31) (hb : b < 2 ^ 31) (h1 : a = b → V x k cs ss w tgt lv st) (h2 : a ≠ b → V x k cs ss w pc' lv st) : V x k cs ss w pc lv (.int (nI b) :: .int (nI a) :: st) := v_icmp_eq tgt pc' hp hd ht (fun q => h1 ((nI_eq ha hb).mp q)) (fun q => h2 (fun z => q ((nI_eq ha hb).mpr z)))
theorem v_icmp_neN {a b : Nat} {off : Int} (tgt pc' : Nat) (hp : pc + 3 = pc') (hd : decode k.1 pc = .ok (.if_icmp .ne off, 3)) (ht : (pc : Int) + off = (tgt : Int)) (ha : a < 2 ^ 31) (hb : b < 2 ^ 31) (h1 : a ≠ b → V x k cs ss w tgt lv st) (h2 : a = b → V x k cs ss w pc' lv st) : V x k cs ss w pc lv (.int (nI b) :: .int (nI a) :: st) := v_icmp_ne tgt pc' hp hd ht (fun q => h1 (fun z => q ((nI_eq ha hb).mpr z))) (fun q => h2 ((nI_eq ha hb).mp q))
theorem v_icmp_ltN {a b : Nat} {off : Int} (tgt pc' : Nat) (hp : pc + 3 = pc') (hd : decode k.1 pc = .ok (.if_icmp .lt off, 3)) (ht : (pc : Int) + off = (tgt : Int)) (ha : a < 2 ^ 31) (hb : b < 2 ^ 31) (h1 : a < b → V x k cs ss w tgt lv st) (h2 : b ≤ a → V x k cs ss w pc' lv st) : V x k cs ss w pc lv (.int (nI b) :: .int (nI a) :: st) := v_icmp_lt tgt pc' hp hd ht (fun q => h1 ((nI_ltI ha hb).mp q)) (fun q => h2 (Nat.not_lt.mp (fun z => q ((nI_ltI ha hb).mpr z))))
theorem v_icmp_geN {a b : Nat} {off : Int} (tgt pc' : Nat) (hp : pc + 3 = pc') (hd : decode k.1 pc = .ok (.if_icmp .ge off, 3)) (ht : (pc : Int) + off = (tgt : Int)) (ha : a < 2 ^ 31) (hb : b < 2 ^ 31) (h1 : b ≤ a → V x k cs ss w tgt lv st) (h2 : a < b → V x k cs ss w pc' lv st) : V x k cs ss w pc lv (.int (nI b) :: .int (nI a) :: st) := v_icmp_ge tgt pc' hp hd ht (fun q => h1 ((nI_leI hb ha).mp q)) (fun q => h2 (Nat.not_le.mp (fun z => q ((nI_leI hb ha).mpr z))))
theorem v_icmp_gtN {a b : Nat} {off : Int} (tgt pc' : Nat) (hp : pc + 3 = pc') (hd : decode k.1 pc = .ok (.if_icmp .gt off, 3)) (ht : (pc : Int) + off = (tgt : Int)) (ha : a < 2 ^ 31) (hb : b < 2 ^ 31) (h1 : b < a → V x k cs ss w tgt lv st) (h2 : a ≤ b → V x k cs ss w pc' lv st) : V x k cs ss w pc lv (.int (nI b) :: .int (nI a) :: st) := v_icmp_gt tgt pc' hp hd ht (fun q => h1 ((nI_ltI hb ha).mp q)) (fun q => h2 (Nat.not_lt.mp (fun z => q ((nI_ltI hb ha).mpr z))))
theorem v_icmp_leN {a b : Nat} {off : Int} (tgt pc' : Nat) (hp : pc + 3 = pc') (hd : decode k.1 pc = .ok (.if_icmp .le off, 3)) (ht : (pc : Int) + off = (tgt : Int)) (ha : a < 2 ^ 31) (hb : b < 2 ^ 31) (h1 : a ≤ b → V x k cs ss w tgt lv st) (h2 : b < a → V x k cs ss w pc' lv st) : V x k cs ss w pc lv (.int (nI b) :: .int (nI a) :: st) := v_icmp_le tgt pc' hp hd ht (fun q => h1 ((nI_leI ha hb).mp q)) (fun q => h2 (Nat.not_le.mp (fun z => q ((nI_leI ha hb).mpr z))))
theorem nI_z {a : Nat} (ha : a < 2 ^ 31) : nI a = 0 ↔ a = 0 := nI_eq (b := 0) ha (by omega)
theorem v_if_eqN {a : Nat} {off : Int} (tgt pc' : Nat) (hp : pc + 3 = pc') (hd : decode k.1 pc = .ok (.ifCond .eq off, 3)) (ht : (pc : Int) + off = (tgt : Int)) (ha : a < 2 ^ 31) (h1 : a = 0 → V x k cs ss w tgt lv st) (h2 : 0 < a → V x k cs ss w pc' lv st) : V x k cs ss w pc lv (.int (nI a) :: st) := v_if_eq tgt pc' hp hd ht (fun q => h1 ((nI_z ha).mp q)) (fun q => h2 (Nat.pos_of_ne_zero (fun z => q ((nI_z ha).mpr z))))
theorem v_if_neN {a : Nat} {off : Int} (tgt pc' : Nat) (hp : pc + 3 = pc') (hd : decode k.1 pc = .ok (.ifCond .ne off, 3)) (ht : (pc : Int) + off = (tgt : Int)) (ha : a < 2 ^ 31) (h1 : 0 < a → V x k cs ss w tgt lv st) (h2 : a = 0 → V x k cs ss w pc' lv st) : V x k cs ss w pc lv (.int (nI a) :: st) := v_if_ne tgt pc' hp hd ht (fun q => h1 (Nat.pos_of_ne_zero (fun z => q ((nI_z ha).mpr z)))) (fun q => h2 ((nI_z ha).mp q))
theorem v_if_gtN {a : Nat} {off : Int} (tgt pc' : Nat) (hp : pc + 3 = pc') (hd : decode k.1 pc = .ok (.ifCond .gt off, 3)) (ht : (pc : Int) + off = (tgt : Int)) (ha : a < 2 ^ 31) (h1 : 0 < a → V x k cs ss w tgt lv st) (h2 : a = 0 → V x k cs ss w pc' lv st) : V x k cs ss w pc lv (.int (nI a) :: st) := v_if_gt tgt pc' hp hd ht (fun q => h1 ((nI_ltI (a := 0) (by omega) ha).mp q)) (fun q => h2 (Nat.eq_zero_of_not_pos (fun z => q ((nI_ltI (a := 0) (by omega) ha).mpr z))))
theorem v_if_leN {a : Nat} {off : Int} (tgt pc' : Nat) (hp : pc + 3 = pc') (hd : decode k.1 pc = .ok (.ifCond .le off, 3)) (ht : (pc : Int) + off = (tgt : Int)) (ha : a < 2 ^ 31) (h1 : a = 0 → V x k cs ss w tgt lv st) (h2 : 0 < a → V x k cs ss w pc' lv st) : V x k cs ss w pc lv (.int (nI a) :: st) := v_if_le tgt pc' hp hd ht (fun q => h1 (Nat.le_zero.mp ((nI_leI (b := 0) ha (by omega)).mp q))) (fun q => h2 (Nat.pos_of_ne_zero (fun z => q ((nI_leI (b := 0) ha (by omega)).mpr (Nat.le_of_eq z)))))
theorem v_if_ltN {a : Nat} {off : Int} (tgt pc' : Nat) (hp : pc + 3 = pc') (hd : decode k.1 pc = .ok (.ifCond .lt off, 3)) (ht : (pc : Int) + off = (tgt : Int)) (ha : a < 2 ^ 31) (h2 : V x k cs ss w pc' lv st) : V x k cs ss w pc lv (.int (nI a) :: st) := v_if_lt tgt pc' hp hd ht (fun q => absurd q (nI_pos ha)) (fun _ => h2)
theorem v_if_geN {a : Nat} {off : Int} (tgt pc' : Nat) (hp : pc + 3 = pc') (hd : decode k.1 pc = .ok (.ifCond .ge off, 3)) (ht : (pc : Int) + off = (tgt : Int)) (ha : a < 2 ^ 31) (h1 : V x k cs ss w tgt lv st) : V x k cs ss w pc lv (.int (nI a) :: st) := v_if_ge tgt pc' hp hd ht (fun _ => h1) (fun q => absurd (nI_pos' ha) q)
def bI (b : Bool) : Int32 := if b then 1 else 0
theorem v_if_eqB {b : Bool} {off : Int} (tgt pc' : Nat) (hp : pc + 3 = pc') (hd : decode k.1 pc = .ok (.ifCond .eq off, 3)) (ht : (pc : Int) + off = (tgt : Int)) (h1 : b = false → V x k cs ss w tgt lv st) (h2 : b = true → V x k cs ss w pc' lv st) : V x k cs ss w pc lv (.int (bI b) :: st) := v_if_eq tgt pc' hp hd ht (fun q => h1 (by cases b; rfl; exact absurd q (by decide))) (fun q => h2 (by cases b; exact absurd rfl q; rfl))
theorem v_if_neB {b : Bool} {off : Int} (tgt pc' : Nat) (hp : pc + 3 = pc') (hd : decode k.1 pc = .ok (.ifCond .ne off, 3)) (ht : (pc : Int) + off = (tgt : Int)) (h1 : b = true → V x k cs ss w tgt lv st) (h2 : b = false → V x k cs ss w pc' lv st) : V x k cs ss w pc lv (.int (bI b) :: st) := v_if_ne tgt pc' hp hd ht (fun q => h1 (by cases b; exact absurd rfl q; rfl)) (fun q => h2 (by cases b; rfl; exact absurd q (by decide)))
theorem v_tabIn {dflt lo hi : Int} {offs : Array Int} {len a : Nat} {off : Int} (tgt : Nat) (hd : decode k.1 pc = .ok (.tableswitch dflt lo hi offs, len)) (ha : a < 2 ^ 31) (h1 : lo ≤ (a : Int)) (h2 : (a : Int) ≤ hi) (ho : offs[((a : Int) - lo).toNat]? = some off) (ht : (pc : Int) + off = (tgt : Int)) (h : V x k cs ss w tgt lv st) : V x k cs ss w pc lv (.int (nI a) :: st) := by
  intro p e s m args below meth c Z H locs ls hP hD hS hl
  have e1 : (nI a).toInt = (a : Int) := nI_toInt ha
  exact lv_tableIn Z.1 Z.2.1 hd (by rw [e1]; omega) (by rw [e1]; omega) (by rw [e1]; exact ho) ht (h p e s m args below meth c Z H locs ls hP hD hS hl)
theorem v_tabOut {dflt lo hi : Int} {offs : Array Int} {len a : Nat} (tgt : Nat) (hd : decode k.1 pc = .ok (.tableswitch dflt lo hi offs, len)) (ha : a < 2 ^ 31) (h1 : (a : Int) < lo ∨ hi < (a : Int)) (ht : (pc : Int) + dflt = (tgt : Int)) (h : V x k cs ss w tgt lv st) : V x k cs ss w pc lv (.int (nI a) :: st) := by
  intro p e s m args below meth c Z H locs ls hP hD hS hl
  have e1 : (nI a).toInt = (a : Int) := nI_toInt ha
  exact lv_tableOut Z.1 Z.2.1 hd (by rw [e1]; exact h1) ht (h p e s m args below meth c Z H locs ls hP hD hS hl)
/-- fields -/
theorem v_get {C : String} {T : u_T} {N ci idx a : Nat} {fs : List Value} {v : Value} (pc' : Nat) (hp : pc + 3 = pc') (q0 fk : Nat) (hd : decode k.1 pc = .ok (.getfield idx, 3)) (hc : vwCl[ci]? = some (C, T, N)) (hk : fk < N) (hin : ∀ w ∈ u_ws C T N, w ∈ kT k) (hlink : Cond.fieldLink (kO k) idx (T fk).1 (T fk).2.1 (T fk).2.2.1 ∈ kT k) (he : w[q0]? = some (a, .inr (ci, fs))) (hv : fs[fk]? = some v) (h : V x k cs ss w pc' lv (v :: st)) : V x k cs ss w pc lv (.ref a :: st) := by
  subst hp
  intro p e s m args below meth c Z H locs ls hP hD hS hl
  exact va_get Z.1 Z.2.1 Z.2.2.2.2.1 hin Z.2.2.2.1 Z.2.2.2.2.2.1 hP q0 he hc fk hk (Z.2.2.2.2.1 _ hlink) (fun _ h9 => h9) hv hd (h p e s m args below meth c Z H locs ls hP hD hS hl)
theorem v_getN {C : String} {T : u_T} {N ci idx a : Nat} {fs : List Value} {v : Value} (pc' : Nat) (hp : pc + 3 = pc') (q0 fk : Nat) (hd : decode k.1 pc = .ok (.getfield idx, 3)) (hc : vwCl[ci]? = some (C, T, N)) (hk : fk < N) (hin : ∀ w ∈ u_ws C T N, w ∈ kT k) (hlink : (kO k, idx, (T fk).1, (T fk).2.1, (T fk).2.2.1) ∈ nestF) (he : w[q0]? = some (a, .inr (ci, fs))) (hv : fs[fk]? = some v) (h : V x k cs ss w pc' lv (v :: st)) : V x k cs ss w pc lv (.ref a :: st) := by
  subst hp
  intro p e s m args below meth c Z H locs ls hP hD hS hl
  exact va_getN Z.1 Z.2.1 Z.2.2.2.2.1 hin Z.2.2.2.1 Z.2.2.2.2.2.1 hP q0 he hc fk hk (va_Nw.use rfl (Z.2.2.2.2.2.2.1.1 _ hlink)) (fun _ h9 => h9) hv hd (h p e s m args below meth c Z H locs ls hP hD hS hl)
theorem v_put {C : String} {T : u_T} {ty0 : Nat → FieldType} {N ci idx a : Nat} {fs : List Value} {v : Value} {ty : FieldType} {w' : va_W} (pc' : Nat) (hp : pc + 3 = pc') (q0 fk : Nat) (hd : decode k.1 pc = .ok (.putfield idx, 3)) (hc : vwCl[ci]? = some (C, T, N)) (hk : fk < N) (hin : ∀ w ∈ u_ws C T N, w ∈ kT k) (hty : ∀ k, k < N → parseFieldDescriptor (T k).2.2.1 = some (ty0 k)) (hnm : ∀ a, a < N → ∀ b, b < N → a ≠ b → (T a).2.1 ≠ (T b).2.1) (hlink : Cond.fieldLink (kO k) idx (T fk).1 (T fk).2.1 (T fk).2.2.1 ∈ kT k) (hfin : (T fk).2.2.2 = false) (hpd : parseFieldDescriptor (T fk).2.2.1 = some ty) (hn : narrow ty v = v) (hfit : fits ty v = true) (he : w[q0]? = some (a, .inr (ci, fs))) (hl0 : fk < fs.length) (hw : w.set q0 (a, .inr (ci, fs.set fk v)) = w') (h : V x k cs ss w' pc' lv st) : V x k cs ss w pc lv (v :: .ref a :: st) := by
  subst hp
  intro p e s m args below meth c Z H locs ls hP hD hS hl
  exact va_put Z.1 Z.2.1 Z.2.2.2.2.1 hin ty0 hty hnm Z.2.2.2.1 Z.2.2.2.2.2.1 hP hD hS q0 he hc fk hk (Z.2.2.2.2.1 _ hlink) (fun _ h9 => h9) hfin hpd hn hfit hl0 hd (fun H1 locs1 hP1 hD1 hS1 => h p e s m args below meth c Z H1 locs1 ls (hw ▸ hP1) (hw ▸ hD1) hS1 hl)
theorem v_putF {C : String} {T : u_T} {ty0 : Nat → FieldType} {N ci idx a : Nat} {fs : List Value} {v : Value} {ty : FieldType} {w' : va_W} (pc' : Nat) (hp : pc + 3 = pc') (q0 fk : Nat) (hd : decode k.1 pc = .ok (.putfield idx, 3)) (hc : vwCl[ci]? = some (C, T, N)) (hk : fk < N) (hin : ∀ w ∈ u_ws C T N, w ∈ kT k) (hty : ∀ k, k < N → parseFieldDescriptor (T k).2.2.1 = some (ty0 k)) (hnm : ∀ a, a < N → ∀ b, b < N → a ≠ b → (T a).2.1 ≠ (T b).2.1) (hlink : Cond.fieldLink (kO k) idx (T fk).1 (T fk).2.1 (T fk).2.2.1 ∈ kT k) (hfin : (T fk).2.2.2 = true) (hini : kM k = "<init>") (hdecl : (T fk).1 = kO k) (hpd : parseFieldDescriptor (T fk).2.2.1 = some ty) (hn : narrow ty v = v) (hfit : fits ty v = true) (he : w[q0]? = some (a, .inr (ci, fs))) (hl0 : fk < fs.length) (hw : w.set q0 (a, .inr (ci, fs.set fk v)) = w') (h : V x k cs ss w' pc' lv st) : V x k cs ss w pc lv (v :: .ref a :: st) := by
  subst hp
  intro p e s m args below meth c Z H locs ls hP hD hS hl
  exact va_putF Z.1 Z.2.1 Z.2.2.2.2.1 hin ty0 hty hnm Z.2.2.2.1 Z.2.2.2.2.2.1 hP hD hS q0 he hc fk hk (Z.2.2.2.2.1 _ hlink) (fun _ h9 => h9) hfin (Z.2.2.2.2.2.2.2.2.2.1.trans hini) hdecl hpd hn hfit hl0 hd (fun H1 locs1 hP1 hD1 hS1 => h p e s m args below meth c Z H1 locs1 ls (hw ▸ hP1) (hw ▸ hD1) hS1 hl)
/-- arrays: the index is a natural number -/
theorem v_iald {cA : ClassId} {n a j : Nat} {f : Nat → Int32} {v : Int32} (pc' : Nat) (hp : pc + 1 = pc') (q0 t0 : Nat) (hd : decode k.1 pc = .ok (.iaload, 1)) (ha : w[q0]? = some (a, .inl (cA, n, .inl f))) (ht : (xT x)[t0]? = some (cA, .int)) (hj : j < n) (hn : n < 2 ^ 31) (hv : f j = v) (h : V x k cs ss w pc' lv (.int v :: st)) : V x k cs ss w pc lv (.int (nI j) :: .ref a :: st) := by
  subst hp
  subst hv
  intro p e s m args below meth c Z H locs ls hP hD hS hl
  exact va_iald Z.1 Z.2.1 Z.2.2.2.2.2.1 hP q0 t0 ha ht (vp_in_nI hj hn) hd (by rw [nI_clamp (Nat.lt_trans hj hn)]; exact h p e s m args below meth c Z H locs ls hP hD hS hl)
theorem v_zald {cA : ClassId} {n a j : Nat} {f : Nat → Int32} {v : Int32} (pc' : Nat) (hp : pc + 1 = pc') (q0 t0 : Nat) (hd : decode k.1 pc = .ok (.baload, 1)) (ha : w[q0]? = some (a, .inl (cA, n, .inl f))) (ht : (xT x)[t0]? = some (cA, .boolean)) (hj : j < n) (hn : n < 2 ^ 31) (hv : f j = v) (h : V x k cs ss w pc' lv (.int v :: st)) : V x k cs ss w pc lv (.int (nI j) :: .ref a :: st) := by
  subst hp
  subst hv
  intro p e s m args below meth c Z H locs ls hP hD hS hl
  exact va_zald Z.1 Z.2.1 Z.2.2.2.2.2.1 hP q0 t0 ha ht (vp_in_nI hj hn) hd (by rw [nI_clamp (Nat.lt_trans hj hn)]; exact h p e s m args below meth c Z H locs ls hP hD hS hl)
theorem v_iast {cA : ClassId} {n a j : Nat} {f : Nat → Int32} {v : Int32} {w' : va_W} (pc' : Nat) (hp : pc + 1 = pc') (q0 t0 : Nat) (hd : decode k.1 pc = .ok (.iastore, 1)) (ha : w[q0]? = some (a, .inl (cA, n, .inl f))) (ht : (xT x)[t0]? = some (cA, .int)) (hj : j < n) (hn : n < 2 ^ 31) (hw : w.set q0 (a, .inl (cA, n, .inl (upd f j v))) = w') (h : V x k cs ss w' pc' lv st) : V x k cs ss w pc lv (.int v :: .int (nI j) :: .ref a :: st) := by
  subst hp
  subst hw
  intro p e s m args below meth c Z H locs ls hP hD hS hl
  exact va_iast Z.1 Z.2.1 Z.2.2.2.2.2.1 hP hD hS q0 t0 ha ht (vp_in_nI hj hn) hd (fun H1 locs1 hP1 hD1 hS1 => h p e s m args below meth c Z H1 locs1 ls (by rw [nI_clamp (Nat.lt_trans hj hn)] at hP1; exact hP1) (by rw [nI_clamp (Nat.lt_trans hj hn)] at hD1; exact hD1) hS1 hl)
theorem nar_bI (b : Bool) : vp_nar .boolean (bI b) = bI b := by cases b <;> rfl
theorem v_zast {cA : ClassId} {n a j : Nat} {f : Nat → Int32} {b : Bool} {w' : va_W} (pc' : Nat) (hp : pc + 1 = pc') (q0 t0 : Nat) (hd : decode k.1 pc = .ok (.bastore, 1)) (ha : w[q0]? = some (a, .inl (cA, n, .inl f))) (ht : (xT x)[t0]? = some (cA, .boolean)) (hj : j < n) (hn : n < 2 ^ 31) (hw : w.set q0 (a, .inl (cA, n, .inl (upd f j (bI b)))) = w') (h : V x k cs ss w' pc' lv st) : V x k cs ss w pc lv (.int (bI b) :: .int (nI j) :: .ref a :: st) := by
  subst hp
  subst hw
  intro p e s m args below meth c Z H locs ls hP hD hS hl
  exact va_zast Z.1 Z.2.1 Z.2.2.2.2.2.1 hP hD hS q0 t0 ha ht (vp_in_nI hj hn) hd (fun H1 locs1 hP1 hD1 hS1 => h p e s m args below meth c Z H1 locs1 ls (by rw [nI_clamp (Nat.lt_trans hj hn), nar_bI] at hP1; exact hP1) (by rw [nI_clamp (Nat.lt_trans hj hn), nar_bI] at hD1; exact hD1) hS1 hl)
theorem v_alen {cA : ClassId} {n a : Nat} {f : Nat → Int32} {ty : FieldType} (pc' : Nat) (hp : pc + 1 = pc') (q0 t0 : Nat) (hd : decode k.1 pc = .ok (.arraylength, 1)) (ha : w[q0]? = some (a, .inl (cA, n, .inl f))) (ht : (xT x)[t0]? = some (cA, ty)) (h : V x k cs ss w pc' lv (.int (nI n) :: st)) : V x k cs ss w pc lv (.ref a :: st) := by
  subst hp
  intro p e s m args below meth c Z H locs ls hP hD hS hl
  exact va_alen Z.1 Z.2.1 Z.2.2.2.2.2.1 hP q0 t0 ha ht rfl hd (h p e s m args below meth c Z H locs ls hP hD hS hl)
/-- contracts: in the world w the method returns r and leaves the world w' -/
def KPre (D : va_G) (tys : List (ClassId × FieldType)) (w : va_W) (sz : Nat) (U : State) : Prop := U.heap.size = sz ∧ va_P D vwCl w U.heap ∧ va_K D vwCl tys U ∧ NW U ∧ va_D (fun _ => True) w
def KPost (D : va_G) (w w' : va_W) (sz : Nat) (r : Option Value) (st : State) (oc : Outcome) (t : State) : Prop := oc = .returned r ∧ va_P D vwCl w' t.heap ∧ va_F (va_A w sz) st t
abbrev rmK (fr lo : Nat) : Room := { frames := fr, cells := 0, slots := 0, locals := lo }
def KM (D : va_G) (tys : List (ClassId × FieldType)) (l : Launch) (y : MethodName) (ws : List Cond) (fr lo : Nat) (av : List Value) (w : va_W) (r : Option Value) (w' : va_W) : Prop :=
  ∀ sz : Nat, Met l y ws (rmK fr lo) (va_Pc av (KPre D tys w sz)) (fun _ st oc t => KPost D w w' sz r st oc t) 0 0 (va_A w sz)
abbrev xM (D : va_G) (tys : List (ClassId × FieldType)) (l : Launch) (fr lo : Nat) (w : va_W) (r : Option Value) (w' : va_W) : XX := (D, tys, l, rmK fr lo, w, (fun args below s => MQ below (fun _ st oc t => KPost D w w' s.heap.size r st oc t) args s 0 0 (va_A w s.heap.size)), (fun _ _ => True))
theorem KPre.blind {D : va_G} {tys : List (ClassId × FieldType)} {w : va_W} {sz : Nat} {av : List Value} : FrameBlind (va_Pc av (KPre D tys w sz)) := fun a U g mk q => by
  obtain ⟨q0, q1, q2, q3, q4, q5⟩ := q
  exact ⟨q0, q1, q2, va_K.moved (u := U) (U := U.calling g mk a) (Vm.Alike.refl U.vm) q3, NW.same (U := U.calling g mk a) rfl q4, q5⟩
theorem KM.of {D : va_G} {tys : List (ClassId × FieldType)} {l : Launch} {y : MethodName} {ws ws' : List Cond} {fr lo : Nat} {av : List Value} {w : va_W} {r : Option Value} {w' : va_W} {cc : ByteArray} {nL : Nat} {ret : Option FieldType} (hy : plainName y.cls = true) (hw : ws = Cond.code y cc nL ret :: ws') (hlen : (lg_sl av).length ≤ nL)
    (body : V (xM D tys l fr lo w r w') (cc, ws, y.cls, nL, ret, y.name) 0 0 w 0 (lv_args 0 av) []) : KM D tys l y ws fr lo av w r w' := by
  intro sz
  refine Met.ofW (cc := cc) (maxL := nL) (ret := ret) hy hw ?_
  intro p e s m args below meth c s₁ B hml hv
  obtain ⟨rfl, hsz, hP, hK, hN, hD0⟩ := hv
  subst hsz
  have hl := lv_entry av (n := nL) hlen
  rw [lg_entry_eq]
  exact body p e s m av.toArray below meth c ⟨B.exec, B.bytes, hml, findClass_of_methodNamed B.named, atoms_spec (ws := ws) B.pre, hK, hN, B.notSynchronized, B.returns, (name_of_methodNamed B.named B.method).1, trivial⟩ s.heap [] _ hP hD0.self va_S.rf hl
/-- returns -/
theorem v_iret {D : va_G} {tys : List (ClassId × FieldType)} {l : Launch} {fr lo : Nat} {w0 w' : va_W} {r : Option Value} {v : Int32} (hd : decode k.1 pc = .ok (.ireturn, 1)) (hr : kR k = some .int) (hv : some (.int v) = r) (hw : w = w') : V (xM D tys l fr lo w0 r w') k 0 0 w pc lv [.int v] := by
  subst hv
  subst hw
  intro p e s m args below meth c Z H locs ls hP hD hS hl
  have hlocks := Z.2.2.2.2.2.2.2.1
  show W p l e (rmK fr lo) s m args below meth c H locs 0 0 (MQ below (fun _ st oc t => KPost D w0 w s.heap.size (some (.int v)) st oc t) args s 0 0 (va_A w0 s.heap.size)) (F0 m pc ls [.int v])
  exact W.iret Z.1 Z.2.1 (Z.2.2.2.2.2.2.2.2.1.trans hr) (fun t ht hW => ⟨rfl, by rw [ht]; exact hP, hS.F ht⟩) hS.2.2 hd
theorem v_zret {D : va_G} {tys : List (ClassId × FieldType)} {l : Launch} {fr lo : Nat} {w0 w' : va_W} {r : Option Value} {b : Bool} (hd : decode k.1 pc = .ok (.ireturn, 1)) (hr : kR k = some .boolean) (hv : some (.int (bI b)) = r) (hw : w = w') : V (xM D tys l fr lo w0 r w') k 0 0 w pc lv [.int (bI b)] := by
  subst hv
  subst hw
  intro p e s m args below meth c Z H locs ls hP hD hS hl
  have hlocks := Z.2.2.2.2.2.2.2.1
  show W p l e (rmK fr lo) s m args below meth c H locs 0 0 (MQ below (fun _ st oc t => KPost D w0 w s.heap.size (some (.int (bI b))) st oc t) args s 0 0 (va_A w0 s.heap.size)) (F0 m pc ls [.int (bI b)])
  exact W.zret Z.1 Z.2.1 (Z.2.2.2.2.2.2.2.2.1.trans hr) (by cases b <;> rfl) (fun t ht hW => ⟨rfl, by rw [ht]; exact hP, hS.F ht⟩) hS.2.2 hd
theorem v_vret {D : va_G} {tys : List (ClassId × FieldType)} {l : Launch} {fr lo : Nat} {w0 w' : va_W} {r : Option Value} (hd : decode k.1 pc = .ok (.return_, 1)) (hr : kR k = none) (hv : none = r) (hw : w = w') : V (xM D tys l fr lo w0 r w') k 0 0 w pc lv [] := by
  subst hv
  subst hw
  intro p e s m args below meth c Z H locs ls hP hD hS hl
  have hlocks := Z.2.2.2.2.2.2.2.1
  show W p l e (rmK fr lo) s m args below meth c H locs 0 0 (MQ below (fun _ st oc t => KPost D w0 w s.heap.size none st oc t) args s 0 0 (va_A w0 s.heap.size)) (F0 m pc ls [])
  exact W.vret Z.1 Z.2.1 (Z.2.2.2.2.2.2.2.2.1.trans hr) (fun t ht hW => ⟨rfl, by rw [ht]; exact hP, hS.F ht⟩) hS.2.2 hd
end RULES
section CALLS
variable {p : Program} {l : Launch} {e : Env} {R : Room} {s : State} {m : MethodId} {args : Array Value} {below : List Frame} {meth : Method} {c : Code} {H : Heap} {locs : List Loc} {cells slots : Nat} {Q : State → Prop}
/-- behind a call: the world's other cells are as they were -/
theorem k_after {D : va_G} {pc : Nat} {ls : Array Slot} {st0 rest : List Value} {L wc wc' Rr : va_W} {r : Option Value} {H0 : Heap} {A0 : Nat → Prop} (hr : va_Run p l e R s m args below meth c H locs cells slots 0 0 (F0 m pc ls st0) rest (fun st oc t => KPost D wc wc' H.size r st oc t) (va_A wc H.size))
    (hP : va_P D vwCl (L ++ (wc ++ Rr)) H) (hD : va_D A0 (L ++ (wc ++ Rr))) (hS : va_S A0 H0 H locs) (hA : ∀ q, H0.size ≤ q → A0 q) (had : wc'.map (·.1) = wc.map (·.1))
    (kk : ∀ (H1 : Heap) (locs1 : List Loc), va_P D vwCl (L ++ (wc' ++ Rr)) H1 → va_D A0 (L ++ (wc' ++ Rr)) → va_S A0 H0 H1 locs1 → W p l e R s m args below meth c H1 locs1 cells slots Q (F0 m (pc + 3) ls (r.toList ++ rest))) : W p l e R s m args below meth c H locs cells slots Q (F0 m pc ls st0) := by
  intro T hT X
  obtain ⟨v, st₀, t, T', L', h0, X', hL, e1, e2, ⟨hv, hb, hz, hk⟩, st⟩ := hr T hT X
  cases hv
  rw [h0] at hz hk
  have hlen : wc'.length = wc.length := by
    have := congrArg List.length had
    simpa using this
  have hF : ∀ q, va_A wc H.size q → A0 q := by
    rintro q (⟨i, e0, hi⟩ | hi)
    · have hlt : i < wc.length := (List.getElem?_eq_some_iff.mp hi).1
      exact hD.2 (L.length + i) (q, e0) (by rw [List.getElem?_append_right (by omega), show L.length + i - L.length = i by omega, List.getElem?_append_left hlt]; exact hi)
    · exact hA q (Nat.le_trans hS.1 hi)
  have hD' : va_D A0 (L ++ (wc' ++ Rr)) := by
    have hm : (L ++ (wc' ++ Rr)).map (·.1) = (L ++ (wc ++ Rr)).map (·.1) := by simp [had]
    have look : ∀ (i : Nat) (q : Nat × va_E), (L ++ (wc' ++ Rr))[i]? = some q → ∃ q', (L ++ (wc ++ Rr))[i]? = some q' ∧ q'.1 = q.1 := by
      intro i q hq
      have h1 : ((L ++ (wc' ++ Rr)).map (·.1))[i]? = some q.1 := by rw [List.getElem?_map, hq]; rfl
      rw [hm, List.getElem?_map] at h1
      cases hh : (L ++ (wc ++ Rr))[i]? with
      | none => rw [hh] at h1; cases h1
      | some q' => rw [hh] at h1; exact ⟨q', rfl, Option.some.inj h1⟩
    refine ⟨fun i j a b ha hb hab => ?_, fun i q hq => ?_⟩
    · obtain ⟨a', ha', ea⟩ := look i a ha
      obtain ⟨b', hb', eb⟩ := look j b hb
      exact hD.1 i j a' b' ha' hb' (by rw [ea, eb, hab])
    · obtain ⟨q', hq', eq⟩ := look i q hq
      rw [← eq]
      exact hD.2 i q' hq'
  have apart : ∀ (i : Nat) (q : Nat × va_E), (L ++ (wc ++ Rr))[i]? = some q → (i < L.length ∨ L.length + wc.length ≤ i) → q.1 < H.size ∧ ¬ va_A wc H.size q.1 := by
    intro i q hq hi
    have hlt := (hP i q hq).lt
    refine ⟨hlt, ?_⟩
    rintro (⟨j, e0, hj⟩ | hj)
    · have hjl : j < wc.length := (List.getElem?_eq_some_iff.mp hj).1
      have hj' : (L ++ (wc ++ Rr))[L.length + j]? = some (q.1, e0) := by rw [List.getElem?_append_right (by omega), show L.length + j - L.length = j by omega, List.getElem?_append_left hjl]; exact hj
      have := hD.1 i (L.length + j) q (q.1, e0) hq hj' rfl
      omega
    · omega
  have hPn : va_P D vwCl (L ++ (wc' ++ Rr)) t.heap := by
    intro i q hq
    by_cases h1 : i < L.length
    · rw [List.getElem?_append_left h1] at hq
      have hq' : (L ++ (wc ++ Rr))[i]? = some q := by rw [List.getElem?_append_left h1]; exact hq
      obtain ⟨g1, g2⟩ := apart i q hq' (Or.inl h1)
      exact (hP i q hq').kept (hk q.1 g1 g2)
    · by_cases h2 : i < L.length + wc.length
      · rw [List.getElem?_append_right (by omega), List.getElem?_append_left (by omega)] at hq
        exact hb _ q hq
      · rw [List.getElem?_append_right (by omega), List.getElem?_append_right (by omega), hlen] at hq
        have hq' : (L ++ (wc ++ Rr))[i]? = some q := by rw [List.getElem?_append_right (by omega), List.getElem?_append_right (by omega)]; exact hq
        obtain ⟨g1, g2⟩ := apart i q hq' (Or.inr (by omega))
        exact (hP i q hq').kept (hk q.1 g1 g2)
  obtain ⟨t2, a1, b1⟩ := kk T'.heap (locs ++ L') (by rw [e1]; exact hPn) hD'
    ⟨Nat.le_trans hS.1 (by rw [e1]; exact hz), fun q h1 h2 => by rw [e1, hk q (Nat.lt_of_lt_of_le h1 hS.1) (fun z => h2 (hF q z))]; exact hS.2.1 q h1 h2, fun q hq => by
      rcases List.mem_append.mp hq with h | h
      · exact hS.2.2 q h
      · exact hF _ (hL q h)⟩ T' rfl X'
  exact ⟨t2, st t2 a1, b1⟩
end CALLS
section CALLS2
variable {x : XX} {k : KI} {cs ss : Nat} {w : va_W} {pc : Nat} {lv : List (Nat × Value)} {st : List Value}
theorem va_D.mid {A : Nat → Prop} {L wc Rr : va_W} (h : va_D A (L ++ (wc ++ Rr))) : va_D (fun _ => True) wc := by
  refine ⟨fun i j a b ha hb hab => ?_, fun _ _ _ => trivial⟩
  have hi : i < wc.length := (List.getElem?_eq_some_iff.mp ha).1
  have hj : j < wc.length := (List.getElem?_eq_some_iff.mp hb).1
  have := h.1 (L.length + i) (L.length + j) a b (by rw [List.getElem?_append_right (by omega), show L.length + i - L.length = i by omega, List.getElem?_append_left hi]; exact ha) (by rw [List.getElem?_append_right (by omega), show L.length + j - L.length = j by omega, List.getElem?_append_left hj]; exact hb) hab
  omega
theorem va_P.mid {D : va_G} {L wc Rr : va_W} {H : Heap} (h : va_P D vwCl (L ++ (wc ++ Rr)) H) : va_P D vwCl wc H := by
  intro i q hq
  have hi : i < wc.length := (List.getElem?_eq_some_iff.mp hq).1
  exact h (L.length + i) q (by rw [List.getElem?_append_right (by omega), show L.length + i - L.length = i by omega, List.getElem?_append_left hi]; exact hq)
/-- a virtual call: the callee's world lies in the middle of the caller's -/
theorem v_callV {y : MethodName} {wsY wsr : List Cond} {fr lo maxL n idx b ci q0 : Nat} {bytes : ByteArray} {ret : Option FieldType} {C : String} {qC : vw_C} {fs : List Value} {As : List Value} {r : Option Value} {S : List Value} (L wc wc' Rr : va_W) (pc' : Nat) (hp : pc + 3 = pc') (hM : KM (xD x) (xT x) (xl x) y wsY fr lo (.ref b :: As) wc r wc') (hg : GoodIn (kT k) (wsV (kO k) idx C y wsY)) (hwy : wsY = Cond.code y bytes maxL ret :: wsr)
    (hdc : y.cls = C ∧ y.cls ≠ "java/lang/invoke/MethodHandle" ∧ y.cls ≠ "java/lang/invoke/VarHandle" ∧ (parseMethodDescriptor y.desc).map (fun d => d.parameters.length) = some n) (hn : As.length = n) (hR : fr + 1 ≤ (xR x).frames ∧ 8 + (maxL + 11) + lo ≤ (xR x).locals) (hst : S = As.reverse ++ .ref b :: st) (hcat : (st.map fun v => v.category).sum ≤ 8) (hc : vwCl[ci]? = some qC) (hC : qC.1 = C) (he : wc[q0]? = some (b, .inr (ci, fs)))
    (hd : decode k.1 pc = .ok (.invokevirtual idx, 3)) (hcs : cs ≤ (xR x).cells ∧ ss ≤ (xR x).slots) (had : wc'.map (·.1) = wc.map (·.1)) (hw : w = L ++ (wc ++ Rr)) (h : V x k cs ss (L ++ (wc' ++ Rr)) pc' lv (r.toList ++ st)) : V x k cs ss w pc lv S := by
  subst hp
  subst hw
  subst hst
  intro p e s m args below meth c Z H locs ls hP hD hS hl
  have hPc := va_P.mid hP
  have hDc := va_D.mid hD
  have hrec := va_recv Z.2.2.2.2.2.1 hPc hc he
  rw [hC] at hrec
  refine k_after (va_runV (As := As) (rest := st) (n := n) ⟨Z.1, Z.2.1, Z.2.2.1, Z.2.2.2.1, Z.2.2.2.2.1⟩ (hM H.size) (cwV n Z.2.2.2.2.1 hg hwy rfl rfl hdc hR) ⟨KPre.blind, hrec, fun U hU hW => ⟨rfl, by rw [hU], by rw [hU]; exact hPc, va_K.moved hW.alike Z.2.2.2.2.2.1, NW.warm hW Z.2.2.2.2.2.2.1, hDc⟩⟩ rfl hn hl.1 rfl (lv_room hcat) hd hcs) hP hD hS (fun q hq => Or.inr hq) had (fun H1 locs1 hP1 hD1 hS1 => h p e s m args below meth c Z H1 locs1 ls hP1 hD1 hS1 hl)
/-- the same, the callee's world is the caller's -/
theorem v_callF {y : MethodName} {wsY wsr : List Cond} {fr lo maxL n idx b ci q0 : Nat} {bytes : ByteArray} {ret : Option FieldType} {C : String} {qC : vw_C} {fs : List Value} {As : List Value} {r : Option Value} {w' : va_W} {S : List Value} (pc' : Nat) (hp : pc + 3 = pc') (hM : KM (xD x) (xT x) (xl x) y wsY fr lo (.ref b :: As) w r w') (hg : GoodIn (kT k) (wsV (kO k) idx C y wsY)) (hwy : wsY = Cond.code y bytes maxL ret :: wsr)
    (hdc : y.cls = C ∧ y.cls ≠ "java/lang/invoke/MethodHandle" ∧ y.cls ≠ "java/lang/invoke/VarHandle" ∧ (parseMethodDescriptor y.desc).map (fun d => d.parameters.length) = some n) (hn : As.length = n) (hR : fr + 1 ≤ (xR x).frames ∧ 8 + (maxL + 11) + lo ≤ (xR x).locals) (hst : S = As.reverse ++ .ref b :: st) (hcat : (st.map fun v => v.category).sum ≤ 8) (hc : vwCl[ci]? = some qC) (hC : qC.1 = C) (he : w[q0]? = some (b, .inr (ci, fs)))
    (hd : decode k.1 pc = .ok (.invokevirtual idx, 3)) (hcs : cs ≤ (xR x).cells ∧ ss ≤ (xR x).slots) (had : w'.map (·.1) = w.map (·.1)) (h : V x k cs ss w' pc' lv (r.toList ++ st)) : V x k cs ss w pc lv S :=
  v_callV (q0 := q0) [] w w' [] pc' hp hM hg hwy hdc hn hR hst hcat hc hC he hd hcs had (by simp) (by simpa using h)
/-- a static method that touches no cell -/
theorem v_callS {y : MethodName} {wsY wsr : List Cond} {fr lo maxL n idx : Nat} {bytes : ByteArray} {ret : Option FieldType} {As : List Value} {r : Option Value} {S : List Value} (pc' : Nat) (hp : pc + 3 = pc') (hM : KM (xD x) (xT x) (xl x) y wsY fr lo As [] r []) (hg : GoodIn (kT k) (va_wsS (kO k) idx y wsY)) (hwy : wsY = Cond.code y bytes maxL ret :: wsr)
    (hdc : y.cls ≠ "java/lang/invoke/MethodHandle" ∧ y.cls ≠ "java/lang/invoke/VarHandle" ∧ (parseMethodDescriptor y.desc).map (fun d => d.parameters.length) = some n) (hn : As.length = n) (hR : fr + 1 ≤ (xR x).frames ∧ 8 + (maxL + 11) + lo ≤ (xR x).locals) (hst : S = As.reverse ++ st) (hcat : (st.map fun v => v.category).sum ≤ 8)
    (hd : decode k.1 pc = .ok (.invokestatic idx, 3)) (hcs : cs ≤ (xR x).cells ∧ ss ≤ (xR x).slots) (h : V x k cs ss w pc' lv (r.toList ++ st)) : V x k cs ss w pc lv S := by
  subst hp
  subst hst
  intro p e s m args below meth c Z H locs ls hP hD hS hl
  have hPn : va_P (xD x) vwCl [] H := fun k q h => by simp at h
  have hDn : va_D (fun _ => True) [] := ⟨fun i j p q h => by simp at h, fun k q h => by simp at h⟩
  refine k_after (L := w) (wc := []) (wc' := []) (Rr := []) (va_runS (As := As) (rest := st) (n := n) ⟨Z.1, Z.2.1, Z.2.2.1, Z.2.2.2.1, Z.2.2.2.2.1⟩ (hM H.size) (va_cwS n Z.2.2.2.2.1 hg hwy rfl rfl hdc hR) ⟨KPre.blind, fun U hU hW => ⟨rfl, by rw [hU], by rw [hU]; exact hPn, va_K.moved hW.alike Z.2.2.2.2.2.1, NW.warm hW Z.2.2.2.2.2.2.1, hDn⟩⟩ rfl hn hl.1 rfl (lv_room hcat) hd hcs) (by simpa using hP) (by simpa using hD) hS (fun q hq => Or.inr hq) rfl (fun H1 locs1 hP1 hD1 hS1 => h p e s m args below meth c Z H1 locs1 ls (by simpa using hP1) (by simpa using hD1) hS1 hl)
/-- a static method over the caller's world -/
theorem v_callSF {y : MethodName} {wsY wsr : List Cond} {fr lo maxL n idx : Nat} {bytes : ByteArray} {ret : Option FieldType} {As : List Value} {r : Option Value} {w' : va_W} {S : List Value} (pc' : Nat) (hp : pc + 3 = pc') (hM : KM (xD x) (xT x) (xl x) y wsY fr lo As w r w') (hg : GoodIn (kT k) (va_wsS (kO k) idx y wsY)) (hwy : wsY = Cond.code y bytes maxL ret :: wsr)
    (hdc : y.cls ≠ "java/lang/invoke/MethodHandle" ∧ y.cls ≠ "java/lang/invoke/VarHandle" ∧ (parseMethodDescriptor y.desc).map (fun d => d.parameters.length) = some n) (hn : As.length = n) (hR : fr + 1 ≤ (xR x).frames ∧ 8 + (maxL + 11) + lo ≤ (xR x).locals) (hst : S = As.reverse ++ st) (hcat : (st.map fun v => v.category).sum ≤ 8)
    (hd : decode k.1 pc = .ok (.invokestatic idx, 3)) (hcs : cs ≤ (xR x).cells ∧ ss ≤ (xR x).slots) (had : w'.map (·.1) = w.map (·.1)) (h : V x k cs ss w' pc' lv (r.toList ++ st)) : V x k cs ss w pc lv S := by
  subst hp
  subst hst
  intro p e s m args below meth c Z H locs ls hP hD hS hl
  have hDc : va_D (fun _ => True) w := hD.weaken (fun _ _ _ _ => trivial)
  refine k_after (L := []) (wc := w) (wc' := w') (Rr := []) (va_runS (As := As) (rest := st) (n := n) ⟨Z.1, Z.2.1, Z.2.2.1, Z.2.2.2.1, Z.2.2.2.2.1⟩ (hM H.size) (va_cwS n Z.2.2.2.2.1 hg hwy rfl rfl hdc hR) ⟨KPre.blind, fun U hU hW => ⟨rfl, by rw [hU], by rw [hU]; exact hP, va_K.moved hW.alike Z.2.2.2.2.2.1, NW.warm hW Z.2.2.2.2.2.2.1, hDc⟩⟩ rfl hn hl.1 rfl (lv_room hcat) hd hcs) (by simpa using hP) (by simpa using hD) hS (fun q hq => Or.inr hq) had (fun H1 locs1 hP1 hD1 hS1 => h p e s m args below meth c Z H1 locs1 ls (by simpa using hP1) (by simpa using hD1) hS1 hl)
/-- the same, a private one of the nest's host -/
theorem v_callSN {y : MethodName} {wsY wsr : List Cond} {fr lo maxL n idx : Nat} {bytes : ByteArray} {ret : Option FieldType} {As : List Value} {r : Option Value} {S : List Value} (pc' : Nat) (hp : pc + 3 = pc') (hM : KM (xD x) (xT x) (xl x) y wsY fr lo As [] r []) (hg : GoodIn (kT k) wsY) (hwy : wsY = Cond.code y bytes maxL ret :: wsr) (hnw : (kO k, idx, y) ∈ nestM) (hin : Cond.initialized y.cls ∈ kT k) (hsta : Cond.static y ∈ kT k)
    (hdc : y.cls ≠ "java/lang/invoke/MethodHandle" ∧ y.cls ≠ "java/lang/invoke/VarHandle" ∧ (parseMethodDescriptor y.desc).map (fun d => d.parameters.length) = some n) (hn : As.length = n) (hR : fr + 1 ≤ (xR x).frames ∧ 8 + (maxL + 11) + lo ≤ (xR x).locals) (hst : S = As.reverse ++ st) (hcat : (st.map fun v => v.category).sum ≤ 8)
    (hd : decode k.1 pc = .ok (.invokestatic idx, 3)) (hcs : cs ≤ (xR x).cells ∧ ss ≤ (xR x).slots) (h : V x k cs ss w pc' lv (r.toList ++ st)) : V x k cs ss w pc lv S := by
  subst hp
  subst hst
  intro p e s m args below meth c Z H locs ls hP hD hS hl
  have hPn : va_P (xD x) vwCl [] H := fun k q h => by simp at h
  have hDn : va_D (fun _ => True) [] := ⟨fun i j p q h => by simp at h, fun k q h => by simp at h⟩
  refine k_after (L := w) (wc := []) (wc' := []) (Rr := []) (va_runSN (As := As) (rest := st) (n := n) ⟨Z.1, Z.2.1, Z.2.2.1, Z.2.2.2.1, Z.2.2.2.2.1⟩ (hM H.size) ⟨va_cnB n Z.2.2.2.2.1 hg hwy rfl rfl (Z.2.2.2.2.2.2.1.2 _ hnw) (Z.2.2.2.2.1 _ hin) hdc hR, Z.2.2.2.2.1 _ hsta, trivial⟩ ⟨KPre.blind, fun U hU hW => ⟨rfl, by rw [hU], by rw [hU]; exact hPn, va_K.moved hW.alike Z.2.2.2.2.2.1, NW.warm hW Z.2.2.2.2.2.2.1, hDn⟩⟩ rfl hn hl.1 rfl (lv_room hcat) hd hcs) (by simpa using hP) (by simpa using hD) hS (fun q hq => Or.inr hq) rfl (fun H1 locs1 hP1 hD1 hS1 => h p e s m args below meth c Z H1 locs1 ls (by simpa using hP1) (by simpa using hD1) hS1 hl)
end CALLS2
