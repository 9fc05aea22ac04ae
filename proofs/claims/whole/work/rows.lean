section
-- ===== PART A: goes FIRST, ahead of the names: the tables' words, and 'selects' of the private methods out of them =====
/-- a private method of a class that the tables say can be made, by its rows of tables_1 -/
def lw_okq (q : MethodName × Nat) : Prop := (q.1.cls ≠ "java/lang/invoke/MethodHandle" ∧ q.1.cls ≠ "java/lang/invoke/VarHandle") ∧ Cond.instantiable q.1.cls q.2 ∈ tables_1 ∧ Cond.privateMethod q.1 ∈ tables_1 ∧ Cond.instanceMethod q.1 ∈ tables_1
theorem lw_p0 : lw_okq (⟨"StateTypes$Program", "addEntry", "(IIII)V"⟩, 9) := ⟨⟨by decide +kernel, by decide +kernel⟩, List.mem_of_getElem? (i := 40) (by decide +kernel), List.mem_of_getElem? (i := 192) (by decide +kernel), List.mem_of_getElem? (i := 193) (by decide +kernel)⟩
theorem lw_p1 : lw_okq (⟨"StateTypes$Program", "lastOpened", "()I"⟩, 9) := ⟨⟨by decide +kernel, by decide +kernel⟩, List.mem_of_getElem? (i := 40) (by decide +kernel), List.mem_of_getElem? (i := 224) (by decide +kernel), List.mem_of_getElem? (i := 225) (by decide +kernel)⟩
theorem lw_p2 : lw_okq (⟨"StateTypes$Checking", "afterEntry", "(II)I"⟩, 5) := ⟨⟨by decide +kernel, by decide +kernel⟩, List.mem_of_getElem? (i := 83) (by decide +kernel), List.mem_of_getElem? (i := 270) (by decide +kernel), List.mem_of_getElem? (i := 271) (by decide +kernel)⟩
theorem lw_p3 : lw_okq (⟨"java/lang/Throwable", "fillInStackTrace", "(I)Ljava/lang/Throwable;"⟩, 6) := ⟨⟨by decide +kernel, by decide +kernel⟩, List.mem_of_getElem? (i := 379) (by decide +kernel), List.mem_of_getElem? (i := 377) (by decide +kernel), List.mem_of_getElem? (i := 378) (by decide +kernel)⟩
theorem lw_p4 : lw_okq (⟨"StateTypes$Running", "doEntry", "(I)I"⟩, 8) := ⟨⟨by decide +kernel, by decide +kernel⟩, List.mem_of_getElem? (i := 107) (by decide +kernel), List.mem_of_getElem? (i := 417) (by decide +kernel), List.mem_of_getElem? (i := 418) (by decide +kernel)⟩
theorem lw_p5 : lw_okq (⟨"StateTypes$Running", "takeBit", "()Z"⟩, 8) := ⟨⟨by decide +kernel, by decide +kernel⟩, List.mem_of_getElem? (i := 107) (by decide +kernel), List.mem_of_getElem? (i := 421) (by decide +kernel), List.mem_of_getElem? (i := 422) (by decide +kernel)⟩
theorem lw_p6 : lw_okq (⟨"StateTypes$Running", "doSimple", "(I)V"⟩, 8) := ⟨⟨by decide +kernel, by decide +kernel⟩, List.mem_of_getElem? (i := 107) (by decide +kernel), List.mem_of_getElem? (i := 425) (by decide +kernel), List.mem_of_getElem? (i := 426) (by decide +kernel)⟩
theorem lw_p7 : lw_okq (⟨"StateTypesModel", "add", "(III)I"⟩, 25) := ⟨⟨by decide +kernel, by decide +kernel⟩, List.mem_of_getElem? (i := 447) (by decide +kernel), List.mem_of_getElem? (i := 548) (by decide +kernel), List.mem_of_getElem? (i := 549) (by decide +kernel)⟩
theorem lw_p8 : lw_okq (⟨"StateTypesModel", "begin", "(I)I"⟩, 25) := ⟨⟨by decide +kernel, by decide +kernel⟩, List.mem_of_getElem? (i := 447) (by decide +kernel), List.mem_of_getElem? (i := 568) (by decide +kernel), List.mem_of_getElem? (i := 569) (by decide +kernel)⟩
theorem lw_p9 : lw_okq (⟨"StateTypesModel", "nothing", "()V"⟩, 25) := ⟨⟨by decide +kernel, by decide +kernel⟩, List.mem_of_getElem? (i := 447) (by decide +kernel), List.mem_of_getElem? (i := 596) (by decide +kernel), List.mem_of_getElem? (i := 597) (by decide +kernel)⟩
theorem lw_p10 : lw_okq (⟨"StateTypesModel", "blockEnd", "()I"⟩, 25) := ⟨⟨by decide +kernel, by decide +kernel⟩, List.mem_of_getElem? (i := 447) (by decide +kernel), List.mem_of_getElem? (i := 600) (by decide +kernel), List.mem_of_getElem? (i := 601) (by decide +kernel)⟩
theorem lw_p11 : lw_okq (⟨"StateTypesModel", "ended", "()I"⟩, 25) := ⟨⟨by decide +kernel, by decide +kernel⟩, List.mem_of_getElem? (i := 447) (by decide +kernel), List.mem_of_getElem? (i := 604) (by decide +kernel), List.mem_of_getElem? (i := 605) (by decide +kernel)⟩
theorem lw_p12 : lw_okq (⟨"StateTypesModel", "same", "([II)Z"⟩, 25) := ⟨⟨by decide +kernel, by decide +kernel⟩, List.mem_of_getElem? (i := 447) (by decide +kernel), List.mem_of_getElem? (i := 608) (by decide +kernel), List.mem_of_getElem? (i := 609) (by decide +kernel)⟩
theorem lw_p13 : lw_okq (⟨"StateTypesModel", "work", "(I)I"⟩, 25) := ⟨⟨by decide +kernel, by decide +kernel⟩, List.mem_of_getElem? (i := 447) (by decide +kernel), List.mem_of_getElem? (i := 612) (by decide +kernel), List.mem_of_getElem? (i := 613) (by decide +kernel)⟩
theorem lw_p14 : lw_okq (⟨"StateTypesModel", "unfinished", "()Z"⟩, 25) := ⟨⟨by decide +kernel, by decide +kernel⟩, List.mem_of_getElem? (i := 447) (by decide +kernel), List.mem_of_getElem? (i := 616) (by decide +kernel), List.mem_of_getElem? (i := 617) (by decide +kernel)⟩
def lw_privs_1 : List (MethodName × Nat) := [(⟨"StateTypes$Program", "addEntry", "(IIII)V"⟩, 9), (⟨"StateTypes$Program", "lastOpened", "()I"⟩, 9), (⟨"StateTypes$Checking", "afterEntry", "(II)I"⟩, 5), (⟨"java/lang/Throwable", "fillInStackTrace", "(I)Ljava/lang/Throwable;"⟩, 6), (⟨"StateTypes$Running", "doEntry", "(I)I"⟩, 8), (⟨"StateTypes$Running", "takeBit", "()Z"⟩, 8), (⟨"StateTypes$Running", "doSimple", "(I)V"⟩, 8), (⟨"StateTypesModel", "add", "(III)I"⟩, 25), (⟨"StateTypesModel", "begin", "(I)I"⟩, 25), (⟨"StateTypesModel", "nothing", "()V"⟩, 25), (⟨"StateTypesModel", "blockEnd", "()I"⟩, 25), (⟨"StateTypesModel", "ended", "()I"⟩, 25), (⟨"StateTypesModel", "same", "([II)Z"⟩, 25), (⟨"StateTypesModel", "work", "(I)I"⟩, 25), (⟨"StateTypesModel", "unfinished", "()Z"⟩, 25)]
theorem lw_r1 : ∀ q ∈ lw_privs_1, lw_okq q := List.forall_mem_cons.mpr ⟨lw_p0, List.forall_mem_cons.mpr ⟨lw_p1, List.forall_mem_cons.mpr ⟨lw_p2, List.forall_mem_cons.mpr ⟨lw_p3, List.forall_mem_cons.mpr ⟨lw_p4, List.forall_mem_cons.mpr ⟨lw_p5, List.forall_mem_cons.mpr ⟨lw_p6, List.forall_mem_cons.mpr ⟨lw_p7, List.forall_mem_cons.mpr ⟨lw_p8, List.forall_mem_cons.mpr ⟨lw_p9, List.forall_mem_cons.mpr ⟨lw_p10, List.forall_mem_cons.mpr ⟨lw_p11, List.forall_mem_cons.mpr ⟨lw_p12, List.forall_mem_cons.mpr ⟨lw_p13, List.forall_mem_cons.mpr ⟨lw_p14, fun _ h => absurd h List.not_mem_nil⟩⟩⟩⟩⟩⟩⟩⟩⟩⟩⟩⟩⟩⟩⟩
def lw_privs : List (MethodName × Nat) := lw_privs_1
def lw_tbl : List Cond := k2_sels lw_privs ++ tables_1
theorem lw_privs_ok : ∀ q ∈ lw_privs, lw_okq q := lw_r1
end
section
/-! ===== BEGIN words of one list among another's, by their places ===== -/
theorem goodIn_r {big : List Cond} (ws : List Cond) (ps : List Nat) (hp : ws = ps.filterMap (fun i => big[i]?)) (h : ws.all goodWord = true) : GoodIn big ws := by
  intro w hw
  have h1 := List.all_eq_true.mp h w hw
  rw [hp] at hw
  obtain ⟨i, -, hi⟩ := List.mem_filterMap.mp hw
  have hm : w ∈ big := by first | exact List.mem_of_getElem? hi | exact List.getElem?_mem hi
  exact ⟨hm, good_of_word h1⟩
theorem goodIn_app {big a b : List Cond} (ha : GoodIn big a) (hb : GoodIn big b) : GoodIn big (a ++ b) := fun w h => (List.mem_append.mp h).elim (ha w) (hb w)
theorem goodIn_ca {big a b : List Cond} {c : Cond} (ha : GoodIn big (c :: a)) (hb : GoodIn big b) : GoodIn big (c :: (a ++ b)) := fun w h => (List.mem_cons.mp h).elim (fun e => ha w (List.mem_cons.mpr (Or.inl e))) (fun h => (List.mem_append.mp h).elim (fun h => ha w (List.mem_cons.mpr (Or.inr h))) (hb w))
theorem goodIn_sub {big ws : List Cond} (hm : ∀ w ∈ ws, w ∈ big) (h : ws.all goodWord = true) : GoodIn big ws := fun w hw => ⟨hm w hw, good_of_word (List.all_eq_true.mp h w hw)⟩
/-! ===== END ===== -/

/-! ===== BEGIN exceptions that leave a method, and their catching by the caller (launches without stack traces) ===== -/
section VXA
/-! The laws vx_back, vx_callV, vx_callS, vx_callSW, vx_throw0, vx_throwS follow proofs of the library, with one case more: JvmDerived/Free/Laws.lean (Back.of_free), Shelf42/LK1.lean (callV, callS), Shelf/KitTraced.lean (throwNew0V, throwNewS). -/
/-- where a method has thrown q: the class by its name, the cell, what was written, the world -/
def vx_T (XC : String → State → State → Prop) (st : State) (q : Addr) (t : State) (mc ms : Nat) (free : Addr → Prop) : Prop :=
  ∃ (E : String) (ce : Cell) (L : List Loc), XC E st t ∧ t.heap[q]? = some ce ∧ ce.vm = .none ∧ st.vm.findClass E = some ce.cls ∧ st.WarmedH t.vm ∧ st.sameButNew ({ t with vm := st.vm } : State) L mc ms ∧ ∀ z ∈ L, free z.base
def vx_Q (Qc : Array Value → State → Outcome → State → Prop) (XC : String → State → State → Prop) (mc ms : Nat) (free : Addr → Prop) : Array Value → State → Outcome → State → Prop := fun a st o t =>
  (Qc a st o t ∧ ∃ L, FrameEnd st o t L mc ms ∧ ∀ q ∈ L, free q.base) ∨ ∃ q, o = .threw q ∧ vx_T XC st q t mc ms free
/-- a callee that returns or throws -/
def vx_Met (l : Launch) (y : MethodName) (ws : List Cond) (rm : Room) (Pc : Array Value → State → Prop) (Qc : Array Value → State → Outcome → State → Prop) (XC : String → State → State → Prop) (mc ms : Nat) (free : Addr → Prop) : Prop :=
  MetFree l y (headSpec ws rm) Pc (fun _ _ _ _ _ => True) (vx_Q Qc XC mc ms free)
def vx_Post (XC : String → State → State → Prop) (mc ms : Nat) (free : Addr → Prop) : Pt → Array Value → Addr → Pt → Prop := fun A a q B =>
  ∃ (g : JFrame) (mk : MethodId) (t : State) (L : List Loc) (E : String) (ce : Cell), B.U.heap = t.heap ∧ B.U.vm = t.vm ∧ XC E (A.U.calling g mk a) t ∧ t.heap[q]? = some ce ∧ ce.vm = .none ∧ A.U.vm.findClass E = some ce.cls ∧ B.locs = A.locs ++ L ∧ (∀ z ∈ L, free z.base) ∧ B.cells = A.cells + mc ∧ B.slots = A.slots + ms
def vx_Back (l : Launch) (R : Room) (p : Program) (e : Env) (below : List Frame) (s : State) (sargs : Array Value) (y : MethodName) (len W9 : Nat)
    (Pre : Pt → Array Value → Prop) (Post : Pt → Array Value → Option Value → Pt → Prop) (PostX : Pt → Array Value → Addr → Pt → Prop) : Prop :=
  ∀ (m : MethodId) (meth : Method) (c : Code) (A : Pt) (g : JFrame) (ig : Instr) (mk : MethodId) (a : Array Value),
    Stand p l e R s m sargs below meth c A.U A.locs A.cells A.slots → g.method = m → g.locals.size = c.maxLocals → decode c.code g.pc = .ok (ig, len) →
    2 * g.monitorRoom + (g.stack.map fun v => v.category).sum ≤ W9 → A.U.methodNamed? y = some mk → Pre A a →
    (∃ (v : Option Value) (B : Pt), Stand p l e R s m sargs below meth c B.U B.locs B.cells B.slots ∧ Post A a v B ∧
      Steps p.tables e below (doInvoke e (A.U.setTop g) [] mk a).1 (B.U.setTop { g with pc := g.pc + len, stack := v.toList ++ g.stack })) ∨
    (∃ (q : Addr) (B : Pt), Stand p l e R s m sargs below meth c B.U B.locs B.cells B.slots ∧ PostX A a q B ∧
      Steps p.tables e below (doInvoke e (A.U.setTop g) [] mk a).1 ((B.U.setTop g).pushFrame (.throwing q)))
section Payer
variable {l : Launch} {R : Room} {p : Program} {e : Env} {below : List Frame} {s : State} {sargs : Array Value} {y : MethodName} {len W9 : Nat}
theorem vx_back {ws : List Cond} {rm : Room} {Pc : Array Value → State → Prop} {Qc : Array Value → State → Outcome → State → Prop} {XC : String → State → State → Prop} {mc ms : Nat} {free : Addr → Prop} {bytes : ByteArray} {maxL : Nat} {ret : Option FieldType}
    (hM : vx_Met l y ws rm Pc Qc XC mc ms free) (hblind : FrameBlind Pc) (hrc : rm.cells = mc) (hrs : rm.slots = ms)
    (hframes : rm.frames + 1 ≤ R.frames) (hlocals : W9 + (maxL + 11) + rm.locals ≤ R.locals)
    (hws : ∀ w ∈ ws, ∀ a' U, s.WarmedH U.vm → w.before a' U = true) (hcode : Cond.code y bytes maxL ret ∈ ws) (hinit : ∀ a' U, s.WarmedH U.vm → (Cond.initialized y.cls).before a' U = true) :
    vx_Back l R p e below s sargs y len W9 (PreOf R mc ms Pc) (PostOf Qc mc ms free) (vx_Post XC mc ms free) := by
  intro m meth c A g ig mk a X hg hsize hdg hW hn hp
  have h1 : (headSpec ws rm).pre.before a A.U = true := atoms_intro fun w hw => hws w hw _ _ X.warmed
  have h2 : (Cond.code y bytes maxL ret).before a A.U = true := hws _ hcode _ _ X.warmed
  have h3 : (Cond.initialized y.cls).before a A.U = true := hinit _ _ X.warmed
  have h4 : A.cells + (headSpec ws rm).room.cells ≤ R.cells := by rw [show (headSpec ws rm).room.cells = mc from hrc]; exact hp.1
  have h5 : A.slots + (headSpec ws rm).room.slots ≤ R.slots := by rw [show (headSpec ws rm).room.slots = ms from hrs]; exact hp.2.1
  have hPc : Pc a (A.U.calling g mk a) := hblind _ _ _ _ hp.2.2
  obtain ⟨U, Ls, c0, s0⟩ := A
  dsimp only [Pt.U, Pt.locs, Pt.cells, Pt.slots] at h1 h2 h3 h4 h5 X hn hPc ⊢
  obtain ⟨methY, cY, hmY, hcY, -, hlY, -, -, -, -⟩ := Cond.code_spec hn h2
  obtain ⟨kY, hkY, -⟩ := className_of_methodNamed hn
  have hinitY : kY.init = .initialized := Cond.initialized_spec (findClass_of_methodNamed hn) hkY h3
  have h : At U g.method c below := by rw [hg]; exact X.here
  have hlocals9 : W9 + (maxL + 11) + (headSpec ws rm).room.locals ≤ R.locals := hlocals
  have happ : (headSpec ws rm).appliesLoose y e.platform (U.calling g mk a) = true :=
    Spec.appliesLoose_calling (g := g) h hdg hn hkY hinitY
      (X.room_calling (g := g) (R' := (headSpec ws rm).room) hsize hmY hcY hframes (by rw [hlY]; omega) h4 h5) h1
  obtain ⟨mid, hmid⟩ := h.above
  have hfr : (U.setTop g).frames = (.java g :: mid) ++ below := by rw [State.frames_setTop' g h.top, hmid]; rfl
  obtain ⟨o, s₂, hsteps, -, hend, hq⟩ := Steps.callFree hM p X.admits X.cas X.clock (acts := []) hfr happ hPc trivial
  have hq' : vx_Q Qc XC mc ms free a (U.calling g mk a) o s₂ := hq
  rw [State.frames_setTop' g h.top] at hend
  obtain ⟨g₀, hg0⟩ := Option.isSome_iff_exists.mp h.top
  obtain ⟨r, hr⟩ := State.topJava?_eq_some.mp hg0
  have hr' : (({ U with heap := s₂.heap, slotsUsed := s₂.slotsUsed } : State).setVm s₂.vm).frames = .java g₀ :: r := hr
  rcases hq' with ⟨hqc, L, hfe, hL⟩ | ⟨q, rfl, E, ce, L, hx, hce, hcv, hcl, hW₂, hsm, hL⟩
  · obtain ⟨⟨v, rfl⟩, hW₂, e2, q2, q3, q4, q5, q6⟩ := id hfe
    have e3 : s₂ = ({ (U.calling g mk a).setFrames s₂.frames with heap := s₂.heap, slotsUsed := s₂.slotsUsed } : State).setVm s₂.vm := by
      have : s₂ = ({ s₂ with vm := (U.calling g mk a).vm } : State).setVm s₂.vm := rfl
      rw [e2] at this
      exact this
    obtain ⟨c₂, i₂, len₂, hc₂, hd₂, hf₂⟩ := hend
    have hW' : U.WarmedH s₂.vm := hW₂
    have hcc : c₂ = c := by
      have h1 : s₂.code? g.method = U.code? g.method := by
        rw [State.code?_eq, State.code?_eq, hW'.alike.method?]
      exact Option.some.inj (hc₂.symm.trans (h1.trans h.code))
    subst hcc
    have hlen : len₂ = len := by rw [hdg] at hd₂; cases hd₂; rfl
    subst hlen
    have hs₂ : s₂ = (({ U with heap := s₂.heap, slotsUsed := s₂.slotsUsed } : State).setVm s₂.vm).setTop { g with pc := g.pc + len₂, stack := v.toList ++ g.stack } := by
      refine e3.trans ?_
      rw [hf₂, State.calling_eq h.top, State.setFrames_setFrames, State.setTop_of_frames _ hr', hr]
      rfl
    have hsame : U.sameButNew ({ U with heap := s₂.heap, slotsUsed := s₂.slotsUsed } : State) L mc ms := by
      refine ⟨?_, q2, q3, q4, q5, q6⟩
      obtain ⟨t, ht, -⟩ := State.frames_cons hr
      show ({ U with heap := s₂.heap, slotsUsed := s₂.slotsUsed } : State) = { U.setFrames U.frames with heap := s₂.heap, slotsUsed := s₂.slotsUsed }
      rw [State.setFrames_self ht]
    subst hg
    refine Or.inl ⟨v, ⟨(({ U with heap := s₂.heap, slotsUsed := s₂.slotsUsed } : State).setVm s₂.vm), Ls ++ L, c0 + mc, s0 + ms⟩,
      ⟨X.admits, X.cas, X.clock, X.frames, X.room, X.hears, X.method, X.code, (X.here.setHeapUsed s₂.heap s₂.slotsUsed).setVm hW'.alike, X.tail, State.WarmedH.trans X.warmed hW', X.limits, X.bytes, X.same.trans (hsame.setVm s.vm)⟩,
      ⟨g, mk, s₂, L, rfl, rfl, hqc, rfl, hL, rfl, rfl⟩, ?_⟩
    show Steps p.tables e below _ ((({ U with heap := s₂.heap, slotsUsed := s₂.slotsUsed } : State).setVm s₂.vm).setTop { g with pc := g.pc + len₂, stack := v.toList ++ g.stack })
    rw [← hs₂]
    exact hsteps
  · obtain ⟨e2, q2, q3, q4, q5, q6⟩ := id hsm
    have e3 : s₂ = ({ (U.calling g mk a).setFrames s₂.frames with heap := s₂.heap, slotsUsed := s₂.slotsUsed } : State).setVm s₂.vm := by
      have : s₂ = ({ s₂ with vm := (U.calling g mk a).vm } : State).setVm s₂.vm := rfl
      rw [e2] at this
      exact this
    have hf₂ : s₂.frames = .throwing q :: .java g :: U.frames.tail := hend
    have hW' : U.WarmedH s₂.vm := hW₂
    have hs₂ : s₂ = ((({ U with heap := s₂.heap, slotsUsed := s₂.slotsUsed } : State).setVm s₂.vm).setTop g).pushFrame (.throwing q) := by
      refine e3.trans ?_
      rw [hf₂, State.calling_eq h.top, State.setFrames_setFrames, State.pushFrame, State.frames_setTop _ hr', State.setTop_of_frames _ hr', State.setFrames_setFrames, hr]
      rfl
    have hsame : U.sameButNew ({ U with heap := s₂.heap, slotsUsed := s₂.slotsUsed } : State) L mc ms := by
      refine ⟨?_, q2, q3, q4, q5, q6⟩
      obtain ⟨t, ht, -⟩ := State.frames_cons hr
      show ({ U with heap := s₂.heap, slotsUsed := s₂.slotsUsed } : State) = { U.setFrames U.frames with heap := s₂.heap, slotsUsed := s₂.slotsUsed }
      rw [State.setFrames_self ht]
    subst hg
    refine Or.inr ⟨q, ⟨(({ U with heap := s₂.heap, slotsUsed := s₂.slotsUsed } : State).setVm s₂.vm), Ls ++ L, c0 + mc, s0 + ms⟩,
      ⟨X.admits, X.cas, X.clock, X.frames, X.room, X.hears, X.method, X.code, (X.here.setHeapUsed s₂.heap s₂.slotsUsed).setVm hW'.alike, X.tail, State.WarmedH.trans X.warmed hW', X.limits, X.bytes, X.same.trans (hsame.setVm s.vm)⟩,
      ⟨g, mk, s₂, L, E, ce, rfl, rfl, hx, hce, hcv, hcl, rfl, hL, rfl, rfl⟩, ?_⟩
    show Steps p.tables e below _ (((({ U with heap := s₂.heap, slotsUsed := s₂.slotsUsed } : State).setVm s₂.vm).setTop g).pushFrame (.throwing q))
    rw [← hs₂]
    exact hsteps
end Payer
section Calls
variable {p : Program} {l : Launch} {e : Env} {R : Room} {s : State} {m : MethodId} {args : Array Value} {below : List Frame} {meth : Method} {c : Code} {T : State} {locs : List Loc} {cells slots : Nat}
theorem vx_callV (X : Stand p l e R s m args below meth c T locs cells slots) (hexec : p.tables.exec = Jvm.exec) {own C : String} {index : Nat} {y : MethodName} {bytes : ByteArray} {maxL : Nat} {ret : Option FieldType}
    (hown : s.vm.findClass own = some m.cls) (hlink : (Cond.methodLink own index y).before args s = true) (hinst : (Cond.instanceMethod y).before args s = true) (hsel : (Cond.selects C y y).before args s = true)
    (hcode : (Cond.code y bytes maxL ret).before args s = true) (hy : y.cls ≠ "java/lang/invoke/MethodHandle" ∧ y.cls ≠ "java/lang/invoke/VarHandle")
    {W9 : Nat} {Pre : Pt → Array Value → Prop} {Post : Pt → Array Value → Option Value → Pt → Prop} {PostX : Pt → Array Value → Addr → Pt → Prop} (hK : vx_Back l R p e below s args y 3 W9 Pre Post PostX)
    {b : Addr} {cellB : Cell} (hcell : T.heap[b]? = some cellB) (hobj : cellB.vm.isStatics = false) (hcls : s.vm.findClass C = some cellB.cls)
    {g : JFrame} (hg : g.method = m) (hsize : g.locals.size = c.maxLocals) {argsL rest : List Value} (hlen : ∀ sig, parseMethodDescriptor y.desc = some sig → argsL.length = sig.parameters.length)
    (hstack : g.stack = argsL.reverse ++ .ref b :: rest) (hW : 2 * g.monitorRoom + (rest.map fun v => v.category).sum ≤ W9) (hdg : decode c.code g.pc = .ok (.invokevirtual index, 3))
    (hpre : ∀ vm₁, s.WarmedH vm₁ → Pre ⟨T.setVm vm₁, locs, cells, slots⟩ (Value.ref b :: argsL).toArray) :
    (∃ (v : Option Value) (vm₁ : Vm) (B : Pt), s.WarmedH vm₁ ∧ Stand p l e R s m args below meth c B.U B.locs B.cells B.slots ∧ Post ⟨T.setVm vm₁, locs, cells, slots⟩ (Value.ref b :: argsL).toArray v B ∧
      ∀ target, Steps p.tables e below (B.U.setTop { g with pc := g.pc + 3, stack := v.toList ++ rest }) target → Steps p.tables e below (T.setTop g) target) ∨
    (∃ (q : Addr) (vm₁ : Vm) (B : Pt), s.WarmedH vm₁ ∧ Stand p l e R s m args below meth c B.U B.locs B.cells B.slots ∧ PostX ⟨T.setVm vm₁, locs, cells, slots⟩ (Value.ref b :: argsL).toArray q B ∧
      Steps p.tables e below (T.setTop g) ((B.U.setTop { g with stack := rest }).pushFrame (.throwing q))) := by
  obtain ⟨mk, methM, hnamed, hmethM, hstM, habM⟩ := Cond.instanceMethod_spec hinst
  obtain ⟨methM', cM, hmethM', -, -, -, -, -, -, hsigM⟩ := Cond.code_spec hnamed hcode
  cases hmethM.symm.trans hmethM'
  obtain ⟨c2, r2, m2, q1, q2, q3, q4, kP, hkP, hkPi⟩ := Cond.selects_spec hsel
  cases hcls.symm.trans q1
  cases (State.methodFound?_of_named hnamed hy).symm.trans q2
  cases hnamed.symm.trans q3
  have hselP : selectMethod e.platform s.vm cellB.cls mk = .method mk := by rw [Launch.admits_selectMethod X.admits]; exact q4
  obtain ⟨vm₁, X₁, hstep₁⟩ := X.invokevirtual hexec hown hlink hnamed hmethM hstM hkP hkPi hy (a := b) (cell := cellB) hcell
    (fun z h => by rw [h] at hobj; cases hobj) hselP hmethM habM hkP hkPi (g := g) hg (argsL := argsL) (rest := rest) (hlen _ hsigM) hstack hdg
  rcases hK m meth c ⟨T.setVm vm₁, locs, cells, slots⟩ { g with stack := rest } (.invokevirtual index) mk (Value.ref b :: argsL).toArray X₁ hg hsize hdg hW (X₁.named hnamed) (hpre vm₁ X₁.warmed) with ⟨v, B, X', hpost, hsteps⟩ | ⟨q, B, X', hpost, hsteps⟩
  · exact Or.inl ⟨v, vm₁, B, X₁.warmed, X', hpost, fun target h => hstep₁ _ fun acts => by rw [doInvoke_state]; exact hsteps.trans h⟩
  · exact Or.inr ⟨q, vm₁, B, X₁.warmed, X', hpost, hstep₁ _ fun acts => by rw [doInvoke_state]; exact hsteps⟩
theorem vx_callS (X : Stand p l e R s m args below meth c T locs cells slots) (hexec : p.tables.exec = Jvm.exec) {own : String} {index : Nat} {y : MethodName} {bytes : ByteArray} {maxL : Nat} {ret : Option FieldType}
    (hown : s.vm.findClass own = some m.cls) (hlink : (Cond.methodLink own index y).before args s = true) (hstat : (Cond.static y).before args s = true) (hinit : (Cond.initialized y.cls).before args s = true)
    (hcode : (Cond.code y bytes maxL ret).before args s = true) (hy : y.cls ≠ "java/lang/invoke/MethodHandle" ∧ y.cls ≠ "java/lang/invoke/VarHandle")
    {W9 : Nat} {Pre : Pt → Array Value → Prop} {Post : Pt → Array Value → Option Value → Pt → Prop} {PostX : Pt → Array Value → Addr → Pt → Prop} (hK : vx_Back l R p e below s args y 3 W9 Pre Post PostX)
    {g : JFrame} (hg : g.method = m) (hsize : g.locals.size = c.maxLocals) {argsL rest : List Value} (hlen : ∀ sig, parseMethodDescriptor y.desc = some sig → argsL.length = sig.parameters.length)
    (hstack : g.stack = argsL.reverse ++ rest) (hW : 2 * g.monitorRoom + (rest.map fun v => v.category).sum ≤ W9) (hdg : decode c.code g.pc = .ok (.invokestatic index, 3))
    (hpre : ∀ vm₁, s.WarmedH vm₁ → Pre ⟨T.setVm vm₁, locs, cells, slots⟩ argsL.toArray) :
    (∃ (v : Option Value) (vm₁ : Vm) (B : Pt), s.WarmedH vm₁ ∧ Stand p l e R s m args below meth c B.U B.locs B.cells B.slots ∧ Post ⟨T.setVm vm₁, locs, cells, slots⟩ argsL.toArray v B ∧
      ∀ target, Steps p.tables e below (B.U.setTop { g with pc := g.pc + 3, stack := v.toList ++ rest }) target → Steps p.tables e below (T.setTop g) target) ∨
    (∃ (q : Addr) (vm₁ : Vm) (B : Pt), s.WarmedH vm₁ ∧ Stand p l e R s m args below meth c B.U B.locs B.cells B.slots ∧ PostX ⟨T.setVm vm₁, locs, cells, slots⟩ argsL.toArray q B ∧
      Steps p.tables e below (T.setTop g) ((B.U.setTop { g with stack := rest }).pushFrame (.throwing q))) := by
  obtain ⟨mk, hnamed⟩ := Cond.code_named hcode
  obtain ⟨methM, cM, hmethM, -, -, -, -, -, -, hsigM⟩ := Cond.code_spec hnamed hcode
  have hstatic : methM.isStatic = true := Cond.static_spec hnamed hmethM hstat
  obtain ⟨kP, hkP, -⟩ := className_of_methodNamed hnamed
  have hinitP : kP.init = .initialized := Cond.initialized_spec (findClass_of_methodNamed hnamed) hkP hinit
  obtain ⟨vm₁, X₁, hstep₁⟩ := X.invokestatic hexec hown hlink hnamed hmethM hstatic hkP hinitP hy (g := g) hg (argsL := argsL) (rest := rest) (hlen _ hsigM) hstack hdg
  rcases hK m meth c ⟨T.setVm vm₁, locs, cells, slots⟩ { g with stack := rest } (.invokestatic index) mk argsL.toArray X₁ hg hsize hdg hW (X₁.named hnamed) (hpre vm₁ X₁.warmed) with ⟨v, B, X', hpost, hsteps⟩ | ⟨q, B, X', hpost, hsteps⟩
  · exact Or.inl ⟨v, vm₁, B, X₁.warmed, X', hpost, fun target h => hstep₁ _ fun acts => by rw [doInvoke_state]; exact hsteps.trans h⟩
  · exact Or.inr ⟨q, vm₁, B, X₁.warmed, X', hpost, hstep₁ _ fun acts => by rw [doInvoke_state]; exact hsteps⟩
end Calls
theorem vx_cls {s : State} {T : State} {vm₁ : Vm} {E : String} {k : ClassId} (hW : s.WarmedH vm₁) (h : (T.setVm vm₁).vm.findClass E = some k) : s.vm.findClass E = some k := by
  have h1 : vm₁.findClass E = some k := h
  rw [hW.alike.findClass] at h1
  exact h1
/-- the method's frame g, with q thrown over it -/
def vx_W (p : Program) (l : Launch) (e : Env) (R : Room) (s : State) (m : MethodId) (args : Array Value) (below : List Frame) (meth : Method) (c : Code) (H : Heap) (locs : List Loc) (cells slots : Nat) (Q : State → Prop) (g : JFrame) (q : Addr) : Prop :=
  ∀ T : State, T.heap = H → Stand p l e R s m args below meth c T locs cells slots → ∃ t, Steps p.tables e below ((T.setTop g).pushFrame (.throwing q)) t ∧ Q t
def vx_Run (p : Program) (l : Launch) (e : Env) (R : Room) (s : State) (m : MethodId) (args : Array Value) (below : List Frame) (meth : Method) (c : Code) (H : Heap) (locs : List Loc) (cells slots mc ms : Nat) (g : JFrame) (rest : List Value) (Qa : State → Outcome → State → Prop) (XC : String → State → State → Prop) (free : Addr → Prop) : Prop :=
  ∀ T : State, T.heap = H → Stand p l e R s m args below meth c T locs cells slots →
    (∃ (v : Option Value) (st₀ t T' : State) (L : List Loc), st₀.heap = H ∧ Stand p l e R s m args below meth c T' (locs ++ L) (cells + mc) (slots + ms) ∧ (∀ q ∈ L, free q.base) ∧ T'.heap = t.heap ∧ T'.vm = t.vm ∧ Qa st₀ (.returned v) t ∧
      Goes p e below T g T' { g with pc := g.pc + 3, stack := v.toList ++ rest }) ∨
    (∃ (q : Addr) (st₀ t T' : State) (L : List Loc) (E : String) (ce : Cell), st₀.heap = H ∧ Stand p l e R s m args below meth c T' (locs ++ L) (cells + mc) (slots + ms) ∧ (∀ z ∈ L, free z.base) ∧ T'.heap = t.heap ∧ T'.vm = t.vm ∧ XC E st₀ t ∧ t.heap[q]? = some ce ∧ ce.vm = .none ∧ s.vm.findClass E = some ce.cls ∧
      Steps p.tables e below (T.setTop g) ((T'.setTop { g with stack := rest }).pushFrame (.throwing q)))
def vx_X {S : Type} (px : S → Prop) (B : String → S → State → Prop) (A : Nat → Prop) : String → State → State → Prop := fun E st t => ∃ u : S, px u ∧ B E u t ∧ va_F A st t
section Runs
variable {p : Program} {l : Launch} {e : Env} {R : Room} {s : State} {m : MethodId} {args : Array Value} {below : List Frame} {meth : Method} {c : Code} {H : Heap} {locs : List Loc} {cells slots : Nat}
variable {y : MethodName} {bytes cc : ByteArray} {maxL nL mc ms n index : Nat} {ret : Option FieldType} {ws : List Cond} {rm : Room} {Pc : Array Value → State → Prop} {Qc : Array Value → State → Outcome → State → Prop} {XC : String → State → State → Prop} {free : Addr → Prop} {Ts : List Cond} {own C : String} {b : Addr} {As rest : List Value} {g : JFrame}
theorem vx_callBack (cb : CallB R s args own index y bytes maxL ret ws rm mc ms n) (hM : vx_Met l y ws rm Pc Qc XC mc ms free) (hbl : FrameBlind Pc) : vx_Back l R p e below s args y 3 8 (PreOf R mc ms Pc) (PostOf Qc mc ms free) (vx_Post XC mc ms free) := by
  obtain ⟨hrc, hrs, hfr, hlo, hws, hcw, -, hini, -⟩ := cb
  exact vx_back (bytes := bytes) (maxL := maxL) (ret := ret) hM hbl hrc hrs hfr hlo hws hcw (fun a' U hW => word_at hW (Or.inl (by first | rfl | simp [Cond.onTables, Cond.keeps, Cond.steady])) hini)
theorem vx_runV (S : CallFix p m c cc nL s args Ts own) (hM : vx_Met l y ws rm Pc Qc XC mc ms free) (cw : CallW R s args own C index y bytes maxL ret ws rm mc ms n) (hp : PreV s H C b Pc As)
    (hg : g.method = m) (hn : As.length = n) (hsize : g.locals.size = nL) (hstack : g.stack = As.reverse ++ .ref b :: rest) (hW : 2 * g.monitorRoom + (rest.map fun v => v.category).sum ≤ 8) (hdg : decode cc g.pc = .ok (.invokevirtual index, 3)) (hf : cells + mc ≤ R.cells ∧ slots + ms ≤ R.slots) :
    vx_Run p l e R s m args below meth c H locs cells slots mc ms g rest (Qc (Value.ref b :: As).toArray) XC free := by
  have hK : vx_Back l R p e below s args y 3 8 (PreOf R mc ms Pc) (PostOf Qc mc ms free) (vx_Post XC mc ms free) := vx_callBack cw.1 hM hp.1
  obtain ⟨⟨-, -, -, -, -, -, hcode, -, hy, hlen, hl⟩, hin, hse⟩ := cw
  obtain ⟨hx, hb, hml, ho, -⟩ := S
  obtain ⟨-, ⟨cellB, hcB, hoB, hclB⟩, hPc⟩ := hp
  intro T hT X
  rcases vx_callV X hx (C := C) (bytes := bytes) (maxL := maxL) (ret := ret) ho hl hin hse hcode hy hK (by rw [hT]; exact hcB) hoB hclB hg (hsize.trans hml.symm) (argsL := As) (rest := rest) (fun sig h => hn.trans (hlen sig h)) hstack hW (by rw [hb]; exact hdg)
    (fun vm₁ hW₁ => ⟨hf.1, hf.2, hPc (T.setVm vm₁) hT hW₁⟩) with ⟨v, vm₁, ⟨U', l2, c2, s2⟩, hW₁, X', ⟨g', mk, t, L, e1, e2, hq, h1, hL, h2, h3⟩, st⟩ | ⟨q, vm₁, ⟨U', l2, c2, s2⟩, hW₁, X', ⟨g', mk, t, L, E, ce, e1, e2, hq, hce, hcv, hcl, h1, hL, h2, h3⟩, st⟩
  · dsimp only [Pt.U, Pt.locs, Pt.cells, Pt.slots] at X' e1 e2 h1 h2 h3 st
    subst h1; subst h2; subst h3
    exact Or.inl ⟨v, (T.setVm vm₁).calling g' mk (Value.ref b :: As).toArray, t, U', L, hT, X', hL, e1, e2, hq, st⟩
  · dsimp only [Pt.U, Pt.locs, Pt.cells, Pt.slots] at X' e1 e2 h1 h2 h3 st hcl
    subst h1; subst h2; subst h3
    exact Or.inr ⟨q, (T.setVm vm₁).calling g' mk (Value.ref b :: As).toArray, t, U', L, E, ce, hT, X', hL, e1, e2, hq, hce, hcv, vx_cls hW₁ hcl, st⟩
theorem vx_runS (S : CallFix p m c cc nL s args Ts own) (hM : vx_Met l y ws rm Pc Qc XC mc ms free) (cw : CallB R s args own index y bytes maxL ret ws rm mc ms n ∧ (Cond.static y).before args s = true) (hp : PreS s H Pc As)
    (hg : g.method = m) (hn : As.length = n) (hsize : g.locals.size = nL) (hstack : g.stack = As.reverse ++ rest) (hW : 2 * g.monitorRoom + (rest.map fun v => v.category).sum ≤ 8) (hdg : decode cc g.pc = .ok (.invokestatic index, 3)) (hf : cells + mc ≤ R.cells ∧ slots + ms ≤ R.slots) :
    vx_Run p l e R s m args below meth c H locs cells slots mc ms g rest (Qc As.toArray) XC free := by
  have hK : vx_Back l R p e below s args y 3 8 (PreOf R mc ms Pc) (PostOf Qc mc ms free) (vx_Post XC mc ms free) := vx_callBack cw.1 hM hp.1
  obtain ⟨⟨-, -, -, -, -, -, hcode, hini, hy, hlen, hl⟩, hstt⟩ := cw
  obtain ⟨hx, hb, hml, ho, -⟩ := S
  intro T hT X
  rcases vx_callS X hx (bytes := bytes) (maxL := maxL) (ret := ret) ho hl hstt hini hcode hy hK hg (hsize.trans hml.symm) (argsL := As) (rest := rest) (fun sig h => hn.trans (hlen sig h)) hstack hW (by rw [hb]; exact hdg)
    (fun vm₁ hW₁ => ⟨hf.1, hf.2, hp.2 (T.setVm vm₁) hT hW₁⟩) with ⟨v, vm₁, ⟨U', l2, c2, s2⟩, hW₁, X', ⟨g', mk, t, L, e1, e2, hq, h1, hL, h2, h3⟩, st⟩ | ⟨q, vm₁, ⟨U', l2, c2, s2⟩, hW₁, X', ⟨g', mk, t, L, E, ce, e1, e2, hq, hce, hcv, hcl, h1, hL, h2, h3⟩, st⟩
  · dsimp only [Pt.U, Pt.locs, Pt.cells, Pt.slots] at X' e1 e2 h1 h2 h3 st
    subst h1; subst h2; subst h3
    exact Or.inl ⟨v, (T.setVm vm₁).calling g' mk As.toArray, t, U', L, hT, X', hL, e1, e2, hq, st⟩
  · dsimp only [Pt.U, Pt.locs, Pt.cells, Pt.slots] at X' e1 e2 h1 h2 h3 st hcl
    subst h1; subst h2; subst h3
    exact Or.inr ⟨q, (T.setVm vm₁).calling g' mk As.toArray, t, U', L, E, ce, hT, X', hL, e1, e2, hq, hce, hcv, vx_cls hW₁ hcl, st⟩
end Runs
section Rows
variable {p : Program} {l : Launch} {e : Env} {R : Room} {s : State} {m : MethodId} {args : Array Value} {below : List Frame} {meth : Method} {c : Code} {H : Heap} {locs : List Loc} {cells slots : Nat} {Q : State → Prop}
variable {mc ms : Nat} {free : Addr → Prop} {A0 A1 : Nat → Prop} {H0 : Heap} {a : Array Value} {pc : Nat} {ls : Array Slot} {st0 rest : List Value}
theorem vx_keep {st₀ t T' : State} {L : List Loc} (h0 : st₀.heap = H) (e1 : T'.heap = t.heap) (hS : va_S A0 H0 H locs) (hA : ∀ q, q < H.size → A1 q → A0 q) (hf : ∀ q, free q → A0 q) (hL : ∀ q ∈ L, free q.base) (hF : va_F A1 st₀ t) :
    H.size ≤ T'.heap.size ∧ (∀ q : Nat, q < H.size → ¬ A1 q → T'.heap[q]? = H[q]?) ∧ va_S A0 H0 T'.heap (locs ++ L) := by
  obtain ⟨hz, hk⟩ := hF
  rw [h0] at hz hk
  exact ⟨by rw [e1]; exact hz, fun q h1 h2 => by rw [e1]; exact hk q h1 h2,
    ⟨Nat.le_trans hS.1 (by rw [e1]; exact hz), fun q h1 h2 => by rw [e1, hk q (Nat.lt_of_lt_of_le h1 hS.1) (fun z => h2 (hA q (Nat.lt_of_lt_of_le h1 hS.1) z))]; exact hS.2.1 q h1 h2, fun q hq => by
      rcases List.mem_append.mp hq with h | h
      · exact hS.2.2 q h
      · exact hf _ (hL q h)⟩⟩
theorem vx_calli {S SX : Type} {post : Int32 → S → Prop} {px : SX → Prop} {B : S → State → Prop} {BX : String → SX → State → Prop} {AX : Nat → Prop} (hr : vx_Run p l e R s m args below meth c H locs cells slots mc ms (F0 m pc ls st0) rest (va_Qi post B A1 a) (vx_X px BX AX) free) (hS : va_S A0 H0 H locs) (hA : ∀ q, q < H.size → A1 q → A0 q) (hf : ∀ q, free q → A0 q) (hAX : ∀ q, q < H.size → AX q → A0 q)
    (kx : ∀ (E : String) (ce : Cell) (q9 : Addr) (u : SX) (t : State) (H1 : Heap) (locs1 : List Loc), t.heap = H1 → s.vm.Alike t.vm → px u → BX E u t → H.size ≤ H1.size → (∀ q : Nat, q < H.size → ¬ AX q → H1[q]? = H[q]?) → va_S A0 H0 H1 locs1 → H1[q9]? = some ce → ce.vm = .none → s.vm.findClass E = some ce.cls → vx_W p l e R s m args below meth c H1 locs1 (cells + mc) (slots + ms) Q (F0 m pc ls rest) q9)
    (kk : ∀ (r : Int32) (u : S) (t : State) (H1 : Heap) (locs1 : List Loc), t.heap = H1 → s.vm.Alike t.vm → post r u → B u t → H.size ≤ H1.size → (∀ q : Nat, q < H.size → ¬ A1 q → H1[q]? = H[q]?) → va_S A0 H0 H1 locs1 → W p l e R s m args below meth c H1 locs1 (cells + mc) (slots + ms) Q (F0 m (pc + 3) ls (.int r :: rest))) : W p l e R s m args below meth c H locs cells slots Q (F0 m pc ls st0) := by
  intro T hT X
  rcases hr T hT X with ⟨v, st₀, t, T', L, h0, X', hL, e1, e2, ⟨⟨r, u, hv, hp, hb⟩, hF⟩, st⟩ | ⟨q, st₀, t, T', L, E, ce, h0, X', hL, e1, e2, ⟨u, hp, hb, hF⟩, hce, hcv, hcl, st⟩
  · cases hv
    obtain ⟨k1, k2, k3⟩ := vx_keep h0 e1 hS hA hf hL hF
    obtain ⟨t2, a1, b1⟩ := kk r u t T'.heap (locs ++ L) e1.symm (by rw [← e2]; exact X'.warmed.alike) hp hb k1 k2 k3 T' rfl X'
    exact ⟨t2, st t2 a1, b1⟩
  · obtain ⟨k1, k2, k3⟩ := vx_keep h0 e1 hS hAX hf hL hF
    obtain ⟨t2, a1, b1⟩ := kx E ce q u t T'.heap (locs ++ L) e1.symm (by rw [← e2]; exact X'.warmed.alike) hp hb k1 k2 k3 (by rw [e1]; exact hce) hcv hcl T' rfl X'
    exact ⟨t2, st.trans a1, b1⟩
theorem vx_calll {S SX : Type} {post : Int64 → S → Prop} {px : SX → Prop} {B : S → State → Prop} {BX : String → SX → State → Prop} {AX : Nat → Prop} (hr : vx_Run p l e R s m args below meth c H locs cells slots mc ms (F0 m pc ls st0) rest (va_Ql post B A1 a) (vx_X px BX AX) free) (hS : va_S A0 H0 H locs) (hA : ∀ q, q < H.size → A1 q → A0 q) (hf : ∀ q, free q → A0 q) (hAX : ∀ q, q < H.size → AX q → A0 q)
    (kx : ∀ (E : String) (ce : Cell) (q9 : Addr) (u : SX) (t : State) (H1 : Heap) (locs1 : List Loc), t.heap = H1 → s.vm.Alike t.vm → px u → BX E u t → H.size ≤ H1.size → (∀ q : Nat, q < H.size → ¬ AX q → H1[q]? = H[q]?) → va_S A0 H0 H1 locs1 → H1[q9]? = some ce → ce.vm = .none → s.vm.findClass E = some ce.cls → vx_W p l e R s m args below meth c H1 locs1 (cells + mc) (slots + ms) Q (F0 m pc ls rest) q9)
    (kk : ∀ (r : Int64) (u : S) (t : State) (H1 : Heap) (locs1 : List Loc), t.heap = H1 → s.vm.Alike t.vm → post r u → B u t → H.size ≤ H1.size → (∀ q : Nat, q < H.size → ¬ A1 q → H1[q]? = H[q]?) → va_S A0 H0 H1 locs1 → W p l e R s m args below meth c H1 locs1 (cells + mc) (slots + ms) Q (F0 m (pc + 3) ls (.long r :: rest))) : W p l e R s m args below meth c H locs cells slots Q (F0 m pc ls st0) := by
  intro T hT X
  rcases hr T hT X with ⟨v, st₀, t, T', L, h0, X', hL, e1, e2, ⟨⟨r, u, hv, hp, hb⟩, hF⟩, st⟩ | ⟨q, st₀, t, T', L, E, ce, h0, X', hL, e1, e2, ⟨u, hp, hb, hF⟩, hce, hcv, hcl, st⟩
  · cases hv
    obtain ⟨k1, k2, k3⟩ := vx_keep h0 e1 hS hA hf hL hF
    obtain ⟨t2, a1, b1⟩ := kk r u t T'.heap (locs ++ L) e1.symm (by rw [← e2]; exact X'.warmed.alike) hp hb k1 k2 k3 T' rfl X'
    exact ⟨t2, st t2 a1, b1⟩
  · obtain ⟨k1, k2, k3⟩ := vx_keep h0 e1 hS hAX hf hL hF
    obtain ⟨t2, a1, b1⟩ := kx E ce q u t T'.heap (locs ++ L) e1.symm (by rw [← e2]; exact X'.warmed.alike) hp hb k1 k2 k3 (by rw [e1]; exact hce) hcv hcl T' rfl X'
    exact ⟨t2, st.trans a1, b1⟩
theorem vx_callf {S SX : Type} {post : UInt32 → S → Prop} {px : SX → Prop} {B : S → State → Prop} {BX : String → SX → State → Prop} {AX : Nat → Prop} (hr : vx_Run p l e R s m args below meth c H locs cells slots mc ms (F0 m pc ls st0) rest (va_Qf post B A1 a) (vx_X px BX AX) free) (hS : va_S A0 H0 H locs) (hA : ∀ q, q < H.size → A1 q → A0 q) (hf : ∀ q, free q → A0 q) (hAX : ∀ q, q < H.size → AX q → A0 q)
    (kx : ∀ (E : String) (ce : Cell) (q9 : Addr) (u : SX) (t : State) (H1 : Heap) (locs1 : List Loc), t.heap = H1 → s.vm.Alike t.vm → px u → BX E u t → H.size ≤ H1.size → (∀ q : Nat, q < H.size → ¬ AX q → H1[q]? = H[q]?) → va_S A0 H0 H1 locs1 → H1[q9]? = some ce → ce.vm = .none → s.vm.findClass E = some ce.cls → vx_W p l e R s m args below meth c H1 locs1 (cells + mc) (slots + ms) Q (F0 m pc ls rest) q9)
    (kk : ∀ (r : UInt32) (u : S) (t : State) (H1 : Heap) (locs1 : List Loc), t.heap = H1 → s.vm.Alike t.vm → post r u → B u t → H.size ≤ H1.size → (∀ q : Nat, q < H.size → ¬ A1 q → H1[q]? = H[q]?) → va_S A0 H0 H1 locs1 → W p l e R s m args below meth c H1 locs1 (cells + mc) (slots + ms) Q (F0 m (pc + 3) ls (.float r :: rest))) : W p l e R s m args below meth c H locs cells slots Q (F0 m pc ls st0) := by
  intro T hT X
  rcases hr T hT X with ⟨v, st₀, t, T', L, h0, X', hL, e1, e2, ⟨⟨r, u, hv, hp, hb⟩, hF⟩, st⟩ | ⟨q, st₀, t, T', L, E, ce, h0, X', hL, e1, e2, ⟨u, hp, hb, hF⟩, hce, hcv, hcl, st⟩
  · cases hv
    obtain ⟨k1, k2, k3⟩ := vx_keep h0 e1 hS hA hf hL hF
    obtain ⟨t2, a1, b1⟩ := kk r u t T'.heap (locs ++ L) e1.symm (by rw [← e2]; exact X'.warmed.alike) hp hb k1 k2 k3 T' rfl X'
    exact ⟨t2, st t2 a1, b1⟩
  · obtain ⟨k1, k2, k3⟩ := vx_keep h0 e1 hS hAX hf hL hF
    obtain ⟨t2, a1, b1⟩ := kx E ce q u t T'.heap (locs ++ L) e1.symm (by rw [← e2]; exact X'.warmed.alike) hp hb k1 k2 k3 (by rw [e1]; exact hce) hcv hcl T' rfl X'
    exact ⟨t2, st.trans a1, b1⟩
theorem vx_calld {S SX : Type} {post : UInt64 → S → Prop} {px : SX → Prop} {B : S → State → Prop} {BX : String → SX → State → Prop} {AX : Nat → Prop} (hr : vx_Run p l e R s m args below meth c H locs cells slots mc ms (F0 m pc ls st0) rest (va_Qd post B A1 a) (vx_X px BX AX) free) (hS : va_S A0 H0 H locs) (hA : ∀ q, q < H.size → A1 q → A0 q) (hf : ∀ q, free q → A0 q) (hAX : ∀ q, q < H.size → AX q → A0 q)
    (kx : ∀ (E : String) (ce : Cell) (q9 : Addr) (u : SX) (t : State) (H1 : Heap) (locs1 : List Loc), t.heap = H1 → s.vm.Alike t.vm → px u → BX E u t → H.size ≤ H1.size → (∀ q : Nat, q < H.size → ¬ AX q → H1[q]? = H[q]?) → va_S A0 H0 H1 locs1 → H1[q9]? = some ce → ce.vm = .none → s.vm.findClass E = some ce.cls → vx_W p l e R s m args below meth c H1 locs1 (cells + mc) (slots + ms) Q (F0 m pc ls rest) q9)
    (kk : ∀ (r : UInt64) (u : S) (t : State) (H1 : Heap) (locs1 : List Loc), t.heap = H1 → s.vm.Alike t.vm → post r u → B u t → H.size ≤ H1.size → (∀ q : Nat, q < H.size → ¬ A1 q → H1[q]? = H[q]?) → va_S A0 H0 H1 locs1 → W p l e R s m args below meth c H1 locs1 (cells + mc) (slots + ms) Q (F0 m (pc + 3) ls (.double r :: rest))) : W p l e R s m args below meth c H locs cells slots Q (F0 m pc ls st0) := by
  intro T hT X
  rcases hr T hT X with ⟨v, st₀, t, T', L, h0, X', hL, e1, e2, ⟨⟨r, u, hv, hp, hb⟩, hF⟩, st⟩ | ⟨q, st₀, t, T', L, E, ce, h0, X', hL, e1, e2, ⟨u, hp, hb, hF⟩, hce, hcv, hcl, st⟩
  · cases hv
    obtain ⟨k1, k2, k3⟩ := vx_keep h0 e1 hS hA hf hL hF
    obtain ⟨t2, a1, b1⟩ := kk r u t T'.heap (locs ++ L) e1.symm (by rw [← e2]; exact X'.warmed.alike) hp hb k1 k2 k3 T' rfl X'
    exact ⟨t2, st t2 a1, b1⟩
  · obtain ⟨k1, k2, k3⟩ := vx_keep h0 e1 hS hAX hf hL hF
    obtain ⟨t2, a1, b1⟩ := kx E ce q u t T'.heap (locs ++ L) e1.symm (by rw [← e2]; exact X'.warmed.alike) hp hb k1 k2 k3 (by rw [e1]; exact hce) hcv hcl T' rfl X'
    exact ⟨t2, st.trans a1, b1⟩
theorem vx_callv {S SX : Type} {post : S → Prop} {px : SX → Prop} {B : S → State → Prop} {BX : String → SX → State → Prop} {AX : Nat → Prop} (hr : vx_Run p l e R s m args below meth c H locs cells slots mc ms (F0 m pc ls st0) rest (va_Qv post B A1 a) (vx_X px BX AX) free) (hS : va_S A0 H0 H locs) (hA : ∀ q, q < H.size → A1 q → A0 q) (hf : ∀ q, free q → A0 q) (hAX : ∀ q, q < H.size → AX q → A0 q)
    (kx : ∀ (E : String) (ce : Cell) (q9 : Addr) (u : SX) (t : State) (H1 : Heap) (locs1 : List Loc), t.heap = H1 → s.vm.Alike t.vm → px u → BX E u t → H.size ≤ H1.size → (∀ q : Nat, q < H.size → ¬ AX q → H1[q]? = H[q]?) → va_S A0 H0 H1 locs1 → H1[q9]? = some ce → ce.vm = .none → s.vm.findClass E = some ce.cls → vx_W p l e R s m args below meth c H1 locs1 (cells + mc) (slots + ms) Q (F0 m pc ls rest) q9)
    (kk : ∀ (u : S) (t : State) (H1 : Heap) (locs1 : List Loc), t.heap = H1 → s.vm.Alike t.vm → post u → B u t → H.size ≤ H1.size → (∀ q : Nat, q < H.size → ¬ A1 q → H1[q]? = H[q]?) → va_S A0 H0 H1 locs1 → W p l e R s m args below meth c H1 locs1 (cells + mc) (slots + ms) Q (F0 m (pc + 3) ls (rest))) : W p l e R s m args below meth c H locs cells slots Q (F0 m pc ls st0) := by
  intro T hT X
  rcases hr T hT X with ⟨v, st₀, t, T', L, h0, X', hL, e1, e2, ⟨⟨u, hv, hp, hb⟩, hF⟩, st⟩ | ⟨q, st₀, t, T', L, E, ce, h0, X', hL, e1, e2, ⟨u, hp, hb, hF⟩, hce, hcv, hcl, st⟩
  · cases hv
    obtain ⟨k1, k2, k3⟩ := vx_keep h0 e1 hS hA hf hL hF
    obtain ⟨t2, a1, b1⟩ := kk u t T'.heap (locs ++ L) e1.symm (by rw [← e2]; exact X'.warmed.alike) hp hb k1 k2 k3 T' rfl X'
    exact ⟨t2, st t2 a1, b1⟩
  · obtain ⟨k1, k2, k3⟩ := vx_keep h0 e1 hS hAX hf hL hF
    obtain ⟨t2, a1, b1⟩ := kx E ce q u t T'.heap (locs ++ L) e1.symm (by rw [← e2]; exact X'.warmed.alike) hp hb k1 k2 k3 (by rw [e1]; exact hce) hcv hcl T' rfl X'
    exact ⟨t2, st.trans a1, b1⟩
end Rows
section Ends
variable {p : Program} {l : Launch} {e : Env} {R : Room} {s : State} {m : MethodId} {args : Array Value} {below : List Frame} {meth : Method} {c : Code} {H : Heap} {locs : List Loc} {cells slots : Nat} {Q : State → Prop}
variable {mc ms : Nat} {free : Addr → Prop} {A0 A1 : Nat → Prop} {H0 : Heap} {a : Array Value} {ls : Array Slot} {st0 rest : List Value}
variable {Qc : Array Value → State → Outcome → State → Prop} {XC : String → State → State → Prop}
/-- what a body that may throw owes at its end -/
def vx_MQ (below : List Frame) (Qc : Array Value → State → Outcome → State → Prop) (XC : String → State → State → Prop) (a : Array Value) (s : State) (mc ms : Nat) (free : Addr → Prop) : State → Prop := fun t =>
  ∃ o, t.status = .running ∧ Ended t below o ∧ vx_Q Qc XC mc ms free a s o t
theorem vx_ret {g : JFrame} {mc ms : Nat} (k : W p l e R s m args below meth c H locs cells slots (MQ below Qc args s mc ms free) g) : W p l e R s m args below meth c H locs cells slots (vx_MQ below Qc XC args s mc ms free) g := by
  intro T hT X
  obtain ⟨t, a1, o, b1, b2, b3, b4⟩ := k T hT X
  exact ⟨t, a1, o, b1, b2, Or.inl ⟨b3, b4⟩⟩
/-- not caught here: it goes on to the caller -/
theorem vx_widen {g : JFrame} {q : Addr} {k n : Nat} (h1 : cells ≤ k) (h2 : slots ≤ n) (kk : vx_W p l e R s m args below meth c H locs k n Q g q) : vx_W p l e R s m args below meth c H locs cells slots Q g q := fun T hT X => kk T hT (stand_widen X h1 h2)
theorem vx_out {pc : Nat} {E : String} {ce : Cell} {q : Addr} {mc ms : Nat} (hout : ∀ x ∈ c.exceptionTable.toList, covers x pc = false) (hlocks : meth.locks = false) (hcell : H[q]? = some ce) (hv : ce.vm = .none) (hcl : s.vm.findClass E = some ce.cls)
    (hx : ∀ t : State, t.heap = H → s.vm.Alike t.vm → XC E s t) (hf : ∀ z ∈ locs, free z.base) (hc : cells ≤ mc) (hs : slots ≤ ms) :
    vx_W p l e R s m args below meth c H locs cells slots (vx_MQ below Qc XC args s mc ms free) (F0 m pc ls rest) q := by
  intro T hT X
  obtain ⟨st1, hrun, hend, hW, hsm⟩ := X.leaveThrown q (g := F0 m pc ls rest) rfl rfl rfl hout hlocks
  have hcell9 : (T.setFrames (.throwing q :: below)).heap[q]? = some ce := by
    show T.heap[q]? = some ce
    rw [hT]; exact hcell
  exact ⟨_, st1, .threw q, hrun, hend, Or.inr ⟨q, rfl, E, ce, locs, hx _ hT hW.alike, hcell9, hv, hcl, hW, hsm.mono hc hs, hf⟩⟩
theorem vx_frame {U : State} {k n : Nat} (h : s.sameButNew ({ U with vm := s.vm } : State) locs k n) : s.heap.size ≤ U.heap.size ∧ ∀ q : Nat, q < s.heap.size → (∀ z ∈ locs, z.base ≠ q) → U.heap[q]? = s.heap[q]? := by
  obtain ⟨-, h2, -, -, -, h6⟩ := h
  refine ⟨h2, fun q hq hz => ?_⟩
  obtain ⟨c9, e1, e2, e3, e4⟩ := h6 q _ (Array.getElem?_eq_getElem hq)
  have hs : c9.slots = (s.heap[q]).slots := Array.ext_getElem? fun i => e4 i fun hm => hz _ hm rfl
  have h9 : c9 = s.heap[q] := by
    rw [hs] at e2
    exact e2
  have e5 : U.heap[q]? = some c9 := e1
  rw [e5, h9, Array.getElem?_eq_getElem hq]
/-- the words of a throw but the four that speak of the heap -/
def vx_no (w : Cond) : Bool := decide (w ≠ .isRef (.static Bundle.tN "UNASSIGNED_STACK" Bundle.steD)) && decide (w ≠ .isRef (.static Bundle.tN "SUPPRESSED_SENTINEL" Bundle.listD)) && decide (w ≠ .laysStatic Bundle.tN "UNASSIGNED_STACK" Bundle.steD) && decide (w ≠ .laysStatic Bundle.tN "SUPPRESSED_SENTINEL" Bundle.listD)
def vx_at0 (own : String) (ic : Nat) (X : String) (names : List String) : List Cond := (Bundle.ownAtoms0 own ic X names).filter vx_no
def vx_atS (own : String) (ic : Nat) (X : String) (names : List String) : List Cond := (Bundle.ownAtoms own ic X names).filter vx_no
/-- a word that the tables alone decide, or a good one -/
def vx_ot (w : Cond) : Bool := w.onTables || goodWord w
theorem vx_ot_at {args a' : Array Value} {s U : State} {w : Cond} (hW : s.WarmedH U.vm) (hvm : s.vm = U.vm) (hg : vx_ot w = true) (h : w.before args s = true) : w.before a' U = true := by
  simp only [vx_ot, Bool.or_eq_true] at hg
  rcases hg with hg | hg
  · exact va_tabs hg hvm h
  · exact word_at hW (good_of_word hg) h
/-- a list's words: the good ones out of the method's own list, the others by premises of their own -/
theorem vx_hat {args : Array Value} {s : State} {L B : List Cond} (h1 : ∀ w ∈ L.filter goodWord, w.before args s = true) (h2 : ∀ w ∈ L.filter (fun w => !goodWord w), w ∈ B) (h3 : ∀ w ∈ B, w.before args s = true) : ∀ w ∈ L, w.before args s = true := by
  intro w hw
  by_cases g : goodWord w = true
  · exact h1 w (List.mem_filter.mpr ⟨hw, g⟩)
  · refine h3 w (h2 w (List.mem_filter.mpr ⟨hw, ?_⟩))
    show (!goodWord w) = true
    cases hgw : goodWord w
    · rfl
    · exact absurd hgw g
theorem vx_c {args : Array Value} {s : State} {w : Cond} {B : List Cond} (h : w.before args s = true) (t : ∀ w ∈ B, w.before args s = true) : ∀ w' ∈ w :: B, w'.before args s = true := fun w' h' => (List.mem_cons.mp h').elim (fun e => by rw [e]; exact h) (t w')
theorem vx_n {args : Array Value} {s : State} : ∀ w ∈ ([] : List Cond), w.before args s = true := fun _ h => nomatch h
theorem vx_own {args : Array Value} {s : State} {L : List Cond} (h1 : ∀ w ∈ L.filter vx_no, w.before args s = true)
    (hU : (Cond.isRef (.static Bundle.tN "UNASSIGNED_STACK" Bundle.steD)).before args s = true) (hN : (Cond.isRef (.static Bundle.tN "SUPPRESSED_SENTINEL" Bundle.listD)).before args s = true)
    (lU : (Cond.laysStatic Bundle.tN "UNASSIGNED_STACK" Bundle.steD).before args s = true) (lN : (Cond.laysStatic Bundle.tN "SUPPRESSED_SENTINEL" Bundle.listD).before args s = true) : ∀ w ∈ L, w.before args s = true := by
  intro w hw
  by_cases e1 : w = .isRef (.static Bundle.tN "UNASSIGNED_STACK" Bundle.steD)
  · rw [e1]; exact hU
  · by_cases e2 : w = .isRef (.static Bundle.tN "SUPPRESSED_SENTINEL" Bundle.listD)
    · rw [e2]; exact hN
    · by_cases e3 : w = .laysStatic Bundle.tN "UNASSIGNED_STACK" Bundle.steD
      · rw [e3]; exact lU
      · by_cases e4 : w = .laysStatic Bundle.tN "SUPPRESSED_SENTINEL" Bundle.listD
        · rw [e4]; exact lN
        · exact h1 w (List.mem_filter.mpr ⟨hw, by unfold vx_no; rw [decide_eq_true e1, decide_eq_true e2, decide_eq_true e3, decide_eq_true e4]; rfl⟩)
/-- where a static field lies, its class's statics cell in H -/
def vx_L (C n d : String) (A : Nat → Prop) (U : State) (H : Heap) : Prop := ∃ (c : ClassId) (k : Class) (i : Nat) (f : Field) (a : Nat) (cell : Cell), U.vm.findClass C = some c ∧ U.fieldFound? C n d = some (c, k, i, f) ∧ f.isStatic = true ∧ k.statics = some a ∧ H[a]? = some cell ∧ cell.vm.isStatics = true ∧ cell.cls = c ∧ f.slot < cell.slots.size ∧ k.staticTypes[f.slot]? = some f.type ∧ ¬ A a
theorem vx_L.moved {C n d : String} {A : Nat → Prop} {u U : State} {H : Heap} (hvm : u.vm.Alike U.vm) (h : vx_L C n d A u H) : vx_L C n d A U H := by
  obtain ⟨c, k, i, f, a, cell, h1, h2, h3, h4, h5, h6, h7, h8, h9, h10⟩ := h
  obtain ⟨k', hi', he⟩ := State.fieldFound?_setVm hvm h2
  exact ⟨c, k', i, f, a, cell, by rw [hvm.findClass]; exact h1, hi', h3, by rw [he]; exact h4, h5, h6, h7, h8, by rw [he]; exact h9, h10⟩
theorem vx_L.kept {C n d : String} {A : Nat → Prop} {U : State} {H H1 : Heap} (h : vx_L C n d A U H) (hq : ∀ a : Nat, a < H.size → ¬ A a → H1[a]? = H[a]?) : vx_L C n d A U H1 := by
  obtain ⟨c, k, i, f, a, cell, h1, h2, h3, h4, h5, h6, h7, h8, h9, h10⟩ := h
  exact ⟨c, k, i, f, a, cell, h1, h2, h3, h4, by rw [hq a (Array.getElem?_eq_some_iff.mp h5).1 h10]; exact h5, h6, h7, h8, h9, h10⟩
theorem vx_L.narrow {C n d : String} {A B : Nat → Prop} {U : State} {H : Heap} (h : vx_L C n d A U H) (hAB : ∀ q, B q → A q) : vx_L C n d B U H := by
  obtain ⟨c, k, i, f, a, cell, h1, h2, h3, h4, h5, h6, h7, h8, h9, h10⟩ := h
  exact ⟨c, k, i, f, a, cell, h1, h2, h3, h4, h5, h6, h7, h8, h9, fun z => h10 (hAB _ z)⟩
theorem vx_L.word {C n d : String} {A : Nat → Prop} {s : State} {args : Array Value} (h : vx_L C n d A s s.heap) : (Cond.laysStatic C n d).before args s = true := by
  obtain ⟨c, k, i, f, a, cell, h1, h2, h3, h4, h5, h6, h7, h8, h9, -⟩ := h
  show (Cond.laysStatic C n d).holds args s none s [] = true
  exact Cond.laysStatic_of h1 h2 h3 h4 h5 h6 h7 h8 h9
/-- .. and what it holds: null or some reference -/
def vx_Zq (C n d : String) (A : Nat → Prop) (U : State) (H : Heap) : Prop := va_Zq C n d A U H ∧ vx_L C n d A U H
theorem vx_Zq.moved {C n d : String} {A : Nat → Prop} {u U : State} {H : Heap} (hvm : u.vm.Alike U.vm) (h : vx_Zq C n d A u H) : vx_Zq C n d A U H := ⟨va_Zq.moved hvm h.1, vx_L.moved hvm h.2⟩
theorem vx_Zq.kept {C n d : String} {A : Nat → Prop} {U : State} {H H1 : Heap} (h : vx_Zq C n d A U H) (hq : ∀ a : Nat, a < H.size → ¬ A a → H1[a]? = H[a]?) : vx_Zq C n d A U H1 := ⟨va_Zq.kept h.1 hq, vx_L.kept h.2 hq⟩
theorem vx_Zq.narrow {C n d : String} {A B : Nat → Prop} {U : State} {H : Heap} (h : vx_Zq C n d A U H) (hAB : ∀ q, B q → A q) : vx_Zq C n d B U H := ⟨va_Zq.narrow h.1 hAB, vx_L.narrow h.2 hAB⟩
theorem vx_Zqof {args : Array Value} {s : State} {C n d : String} {A : Nat → Prop} (hl : (Cond.laysStatic C n d).before args s = true) (hini : (Cond.initialized C).before args s = true) (h : (Cond.isRef (.static C n d)).before args s = true) (hA : ∀ a : Nat, a < s.heap.size → ¬ A a) : vx_Zq C n d A s s.heap := by
  refine ⟨va_Zqof hl hini h hA, ?_⟩
  obtain ⟨c, k, i, f, a, cell, h1, h2, h3, h4, h5, h6, h7, h8, h9⟩ := Cond.laysStatic_spec hl
  exact ⟨c, k, i, f, a, cell, h1, h2, h3, h4, h5, h6, h7, h8, h9, hA a (Array.getElem?_eq_some_iff.mp h5).1⟩
theorem vx_isRef {C n d : String} {v : Value} {A : Nat → Prop} {s : State} {args : Array Value} (h : va_Z C n d v A s s.heap) (hv : v.isRef = true) : (Cond.isRef (.static C n d)).before args s = true := by
  obtain ⟨cf, kf, fi, f, a, cell, h1, h2, h3, h4, h5, h6, h7, -⟩ := h
  have he : (Term.static C n d).eval args s none [] s = some v := by
    simp [Term.eval, State.fieldNamed?, h1, h2, h4, h5, h6, h7]
  simp only [Cond.before, Cond.holds, Cond.value, he]
  cases v <;> simp_all [Value.isRef]
theorem vx_isRefq {C n d : String} {A : Nat → Prop} {s : State} {args : Array Value} (h : va_Zq C n d A s s.heap) : (Cond.isRef (.static C n d)).before args s = true := by
  rcases h with h | ⟨t, h⟩
  · exact vx_isRef h rfl
  · exact vx_isRef h rfl
/-- the same frame, seen from here: as if the method were called anew in this heap -/
theorem vx_rebase {T : State} (X : Stand p l e R s m args below meth c T locs cells slots) {R' : Room} (hf : R'.frames ≤ R.frames) (hl : R'.locals ≤ R.locals) (hc : cells + R'.cells ≤ R.cells) (hs : slots + R'.slots ≤ R.slots) :
    Stand p l e R' ((T.setVm s.vm).setFrames (.invoking m args :: below)) m args below meth c T [] 0 0 := by
  have htop : (T.setVm s.vm).topJava?.isSome := X.here.top
  have hF : ((T.setVm s.vm).setFrames (.invoking m args :: below)).frames = .invoking m args :: below := State.frames_setFrames _ (State.cur_lt_of_top htop)
  obtain ⟨g₀, hg0⟩ := Option.isSome_iff_exists.mp htop
  obtain ⟨r, hr⟩ := State.topJava?_eq_some.mp hg0
  have hl9 : e.platform.stackLimits (T.setVm s.vm).me = e.platform.stackLimits s.me := X.limits
  have hb9 : (T.setVm s.vm).me.stackBytes = s.me.stackBytes := X.bytes
  refine ⟨X.admits, X.cas, X.clock, hF, ?_, X.hears, X.method, X.code, X.here, X.tail, X.warmed, ?_, ?_, ?_⟩
  · have h := X.room
    have hU : ((T.setVm s.vm).setFrames (.invoking m args :: below)).localsInUse = s.localsInUse := by
      rw [State.localsInUse_invoking hF (meth := meth) (c := c) X.method X.code, State.localsInUse_invoking X.frames X.method X.code]
    simp only [State.hasRoom, Bool.and_eq_true, decide_eq_true_eq] at h ⊢
    obtain ⟨⟨⟨⟨h1, h2, h3, h4, h5, h6⟩, h7⟩, h8⟩, h9⟩ := h
    rw [X.frames, List.length_cons] at h2 h3
    have q1 := X.heapSize
    have q2 := X.used
    simp only [hF, hU, List.length_cons, State.stackLimits_setFrames, State.stackBytes_setFrames, hl9, hb9]
    refine ⟨⟨⟨⟨by omega, by omega, by omega, by omega, by omega, h6⟩, ?_⟩, ?_⟩, X.book⟩
    · show T.heap.size + R'.cells ≤ e.platform.maxCells
      omega
    · show T.slotsUsed + R'.slots ≤ e.platform.maxSlots
      omega
  · rw [State.stackLimits_setFrames]; rfl
  · rw [State.stackBytes_setFrames]; rfl
  · refine ⟨?_, Nat.le_refl _, Nat.le_refl _, ?_, ?_, fun a c9 h9 => ⟨c9, h9, rfl, rfl, fun _ _ => rfl⟩⟩
    · obtain ⟨t, ht, -⟩ := State.frames_cons hr
      show T.setVm s.vm = { ((T.setVm s.vm).setFrames (.invoking m args :: below)).setFrames (T.setVm s.vm).frames with heap := T.heap, slotsUsed := T.slotsUsed }
      rw [State.setFrames_setFrames, State.setFrames_self ht]
      rfl
    · show T.slotsUsed = T.slotsUsed + ((T.heap.toList.drop T.heap.size).map (·.slots.size)).sum
      rw [List.drop_eq_nil_of_le (Nat.le_of_eq Array.length_toList)]
      rfl
    · show ((T.heap.toList.drop T.heap.size).map (·.slots.size)).sum ≤ 0
      rw [List.drop_eq_nil_of_le (Nat.le_of_eq Array.length_toList)]
      exact Nat.le_refl _
/-- 'throw new E()': new; dup; invokespecial; athrow -/
theorem vx_throw0 {cc : ByteArray} {pc : Nat} (hexec : p.tables.exec = Jvm.exec) (hb : c.code = cc) (hl : l.stackTraces = false) {own cls : String} {names : List String} {ik ic mc ms : Nat} {A : Nat → Prop}
    (hown : s.vm.findClass own = some m.cls) (hcls : Bundle.fit cls = true) (hnames : ∀ n ∈ names, Bundle.fit n = true)
    (hk : (Cond.classLink own ik cls).before args s = true) (hini : (Cond.initialized cls).before args s = true) (hat : ∀ w ∈ vx_at0 own ic cls names, w.before args s = true)
    (hgood : ∀ w ∈ Cond.classLink own ik cls :: Cond.initialized cls :: vx_at0 own ic cls names, vx_ot w = true)
    (hU : vx_Zq Bundle.tN "UNASSIGNED_STACK" Bundle.steD A s s.heap) (hN : vx_Zq Bundle.tN "SUPPRESSED_SENTINEL" Bundle.listD A s s.heap) (hS : va_S A s.heap H locs) (hsize : ls.size = c.maxLocals)
    (d0 : decode cc pc = .ok (.new ik, 3)) (d3 : decode cc (pc + 3) = .ok (.dup, 1)) (d4 : decode cc (pc + 4) = .ok (.invokespecial ic, 3)) (d7 : decode cc (pc + 7) = .ok (.athrow, 1))
    (hout : ∀ x ∈ c.exceptionTable.toList, covers x (pc + 7) = false)
    (hRframes : names.length + 3 < R.frames) (hRlocals : (rest.map fun v => v.category).sum + (13 * (names.length + 1) + 42) ≤ R.locals) (hRcells : cells + 1 ≤ R.cells) (hRslots : slots + 6 ≤ R.slots) (hlocks : meth.locks = false)
    (hx : ∀ t : State, s.vm.Alike t.vm → H.size ≤ t.heap.size → (∀ q : Nat, q < H.size → t.heap[q]? = H[q]?) → XC cls s t)
    (hf : ∀ z ∈ locs, free z.base) (hc : cells + 1 ≤ mc) (hs : slots + 6 ≤ ms) :
    W p l e R s m args below meth c H locs cells slots (vx_MQ below Qc XC args s mc ms free) (F0 m pc ls rest) := by
  intro T hT X
  have htr : e.platform.stackTraces = false := (show e.platform.stackTraces = l.stackTraces by rw [X.admits.platform]).trans hl
  have Y := vx_rebase X (R' := { frames := R.frames, locals := R.locals, cells := 1, slots := 6 }) (Nat.le_refl _) (Nat.le_refl _) hRcells hRslots
  obtain ⟨s', hA⟩ : ∃ z, z = (T.setVm s.vm).setFrames (.invoking m args :: below) := ⟨_, rfl⟩
  rw [← hA] at Y
  have hvm : s'.vm = s.vm := by rw [hA]; rfl
  have hhp : s'.heap = H := by rw [hA]; exact hT
  have hW0 : s.WarmedH s'.vm := by rw [hvm]; exact State.WarmedH.refl s
  have hat' : ∀ w ∈ vx_at0 own ic cls names, w.before args s' = true := fun w hw => vx_ot_at hW0 hvm.symm (hgood w (List.mem_cons_of_mem _ (List.mem_cons_of_mem _ hw))) (hat w hw)
  have hk' : (Cond.classLink own ik cls).before args s' = true := vx_ot_at hW0 hvm.symm (hgood _ List.mem_cons_self) hk
  have hini' : (Cond.initialized cls).before args s' = true := vx_ot_at hW0 hvm.symm (hgood _ (List.mem_cons_of_mem _ List.mem_cons_self)) hini
  have hU' : vx_Zq Bundle.tN "UNASSIGNED_STACK" Bundle.steD A s' s'.heap := by rw [hhp]; exact vx_Zq.moved hW0.alike (hU.kept hS.2.1)
  have hN' : vx_Zq Bundle.tN "SUPPRESSED_SENTINEL" Bundle.listD A s' s'.heap := by rw [hhp]; exact vx_Zq.moved hW0.alike (hN.kept hS.2.1)
  have h : ∀ w ∈ Bundle.ownAtoms0 own ic cls names, w.before args s' = true := vx_own hat' (vx_isRefq hU'.1) (vx_isRefq hN'.1) hU'.2.word hN'.2.word
  have hown' : s'.vm.findClass own = some m.cls := by rw [hvm]; exact hown
  have hins : (Cond.instantiable cls 6).before args s' = true := h _ (by simp [Bundle.ownAtoms0])
  obtain ⟨vm₁, cX, kX, hfX, hkX, -, -, X₁, st1⟩ := Y.newCold hexec (own := own) (C := cls) (index := ik) (n := 6) hown' hk' hins hini'
    (g := F0 m pc ls rest) rfl (by rw [hb]; exact d0) (Nat.le_refl _) (Nat.le_refl _)
  generalize hT1 : (T.setVm vm₁).pushCell { cls := cX, slots := kX.instanceTypes.map defaultValue, vm := .none } = T1 at X₁ st1
  have hcat : (Value.ref T.heap.size).category = 1 := rfl
  have hcellA : T1.heap[T.heap.size]? = some (freshCell cX kX) := by rw [← hT1]; exact State.heap_pushCell_size _ _
  have d3' : decode c.code (pc + 3) = .ok (.dup, 1) := by rw [hb]; exact d3
  obtain ⟨U, hsteps, hrun, hend, hW, hsame, ce, hce, hO⟩ := X₁.ctorThrow0 hexec htr (own := own) (cls := cls) (names := names) (ic := ic) hown' hcls hnames h (fun x hx => nomatch hx) hfX hkX hcellA (by rw [hhp, hT]; exact Nat.le_refl _)
    (g := { method := m, pc := pc + 4, locals := ls, stack := .ref T.heap.size :: .ref T.heap.size :: rest, locked := none }) rfl hsize rfl rfl (rest := rest) rfl
    (by rw [hb]; exact d4) (by rw [hb]; exact d7) hout hRframes (by simp only [List.map_cons, List.sum_cons, hcat]; omega) hlocks
  obtain ⟨f1, f2⟩ := vx_frame hsame
  rw [hhp] at f1 f2
  have hWs : s.WarmedH U.vm := State.WarmedH.trans hW0 hW
  have hcl : s.vm.findClass cls = some ce.cls := by
    have h9 := hO.cls
    rw [hvm] at h9
    exact h9
  have hall : s.sameButNew ({ U with vm := s.vm } : State) locs mc ms := by
    subst hA
    obtain ⟨e1, e2⟩ := hsame
    rw [State.setFrames_setFrames] at e1
    have h2 : (T.setVm s.vm).sameButNew ({ U with vm := s.vm } : State) [] (0 + 1) (0 + 6) := ⟨e1, e2⟩
    have h3 := X.same.trans h2
    rw [List.append_nil] at h3
    exact h3.mono hc hs
  refine ⟨U, ?_, .threw T.heap.size, hrun, hend, Or.inr ⟨T.heap.size, rfl, cls, ce, locs, hx U hWs.alike f1 (fun q hq => f2 q hq (fun z hz => nomatch hz)), hce, hO.vm, hcl, hWs, hall, hf⟩⟩
  refine st1 _ ?_
  show Steps p.tables e below (T1.setTop { method := m, pc := pc + 3, locals := ls, stack := .ref T.heap.size :: rest, locked := none }) _
  jvm_step X₁.here [X₁.here.top, hexec, d3', Value.category]
  exact hsteps
/-- 'throw new E("text")': new; dup; ldc; invokespecial; athrow -/
theorem vx_throwS {cc : ByteArray} {pc : Nat} (hexec : p.tables.exec = Jvm.exec) (hb : c.code = cc) (hl : l.stackTraces = false) {own cls text : String} {names : List String} {ik is ic mc ms sa : Nat} {A : Nat → Prop}
    (hown : s.vm.findClass own = some m.cls) (hcls : Bundle.fit cls = true) (hnames : ∀ n ∈ names, Bundle.fit n = true)
    (hk : (Cond.classLink own ik cls).before args s = true) (hini : (Cond.initialized cls).before args s = true) (hstr : vk_R own is text sa s) (hat : ∀ w ∈ vx_atS own ic cls names, w.before args s = true)
    (hgood : ∀ w ∈ Cond.classLink own ik cls :: Cond.initialized cls :: vx_atS own ic cls names, vx_ot w = true)
    (hU : vx_Zq Bundle.tN "UNASSIGNED_STACK" Bundle.steD A s s.heap) (hN : vx_Zq Bundle.tN "SUPPRESSED_SENTINEL" Bundle.listD A s s.heap) (hS : va_S A s.heap H locs) (hsize : ls.size = c.maxLocals)
    (d0 : decode cc pc = .ok (.new ik, 3)) (d3 : decode cc (pc + 3) = .ok (.dup, 1)) (d4 : decode cc (pc + 4) = .ok (.ldc is, 2)) (d6 : decode cc (pc + 6) = .ok (.invokespecial ic, 3)) (d9 : decode cc (pc + 9) = .ok (.athrow, 1))
    (hout : ∀ x ∈ c.exceptionTable.toList, covers x (pc + 9) = false)
    (hRframes : names.length + 3 < R.frames) (hRlocals : (rest.map fun v => v.category).sum + (13 * (names.length + 1) + 43) ≤ R.locals) (hRcells : cells + 1 ≤ R.cells) (hRslots : slots + 6 ≤ R.slots) (hlocks : meth.locks = false)
    (hx : ∀ t : State, s.vm.Alike t.vm → H.size ≤ t.heap.size → (∀ q : Nat, q < H.size → t.heap[q]? = H[q]?) → XC cls s t)
    (hf : ∀ z ∈ locs, free z.base) (hc : cells + 1 ≤ mc) (hs : slots + 6 ≤ ms) :
    W p l e R s m args below meth c H locs cells slots (vx_MQ below Qc XC args s mc ms free) (F0 m pc ls rest) := by
  intro T hT X
  have htr : e.platform.stackTraces = false := (show e.platform.stackTraces = l.stackTraces by rw [X.admits.platform]).trans hl
  have Y := vx_rebase X (R' := { frames := R.frames, locals := R.locals, cells := 1, slots := 6 }) (Nat.le_refl _) (Nat.le_refl _) hRcells hRslots
  obtain ⟨s', hA⟩ : ∃ z, z = (T.setVm s.vm).setFrames (.invoking m args :: below) := ⟨_, rfl⟩
  rw [← hA] at Y
  have hvm : s'.vm = s.vm := by rw [hA]; rfl
  have hhp : s'.heap = H := by rw [hA]; exact hT
  have hW0 : s.WarmedH s'.vm := by rw [hvm]; exact State.WarmedH.refl s
  have hat' : ∀ w ∈ vx_atS own ic cls names, w.before args s' = true := fun w hw => vx_ot_at hW0 hvm.symm (hgood w (List.mem_cons_of_mem _ (List.mem_cons_of_mem _ hw))) (hat w hw)
  have hk' : (Cond.classLink own ik cls).before args s' = true := vx_ot_at hW0 hvm.symm (hgood _ List.mem_cons_self) hk
  have hini' : (Cond.initialized cls).before args s' = true := vx_ot_at hW0 hvm.symm (hgood _ (List.mem_cons_of_mem _ List.mem_cons_self)) hini
  have hU' : vx_Zq Bundle.tN "UNASSIGNED_STACK" Bundle.steD A s' s'.heap := by rw [hhp]; exact vx_Zq.moved hW0.alike (hU.kept hS.2.1)
  have hN' : vx_Zq Bundle.tN "SUPPRESSED_SENTINEL" Bundle.listD A s' s'.heap := by rw [hhp]; exact vx_Zq.moved hW0.alike (hN.kept hS.2.1)
  have h : ∀ w ∈ Bundle.ownAtoms own ic cls names, w.before args s' = true := vx_own hat' (vx_isRefq hU'.1) (vx_isRefq hN'.1) hU'.2.word hN'.2.word
  have hown' : s'.vm.findClass own = some m.cls := by rw [hvm]; exact hown
  have hins : (Cond.instantiable cls 6).before args s' = true := h _ (by simp [Bundle.ownAtoms])
  obtain ⟨vm₁, cX, kX, hfX, hkX, -, -, X₁, st1⟩ := Y.newCold hexec (own := own) (C := cls) (index := ik) (n := 6) hown' hk' hins hini'
    (g := F0 m pc ls rest) rfl (by rw [hb]; exact d0) (Nat.le_refl _) (Nat.le_refl _)
  generalize hT1 : (T.setVm vm₁).pushCell { cls := cX, slots := kX.instanceTypes.map defaultValue, vm := .none } = T1 at X₁ st1
  have hcat : (Value.ref T.heap.size).category = 1 := rfl
  have hcellA : T1.heap[T.heap.size]? = some (freshCell cX kX) := by rw [← hT1]; exact State.heap_pushCell_size _ _
  have d3' : decode c.code (pc + 3) = .ok (.dup, 1) := by rw [hb]; exact d3
  have d4' : decode c.code (pc + 4) = .ok (.ldc is, 2) := by rw [hb]; exact d4
  have hstr' : vk_R own is text sa s' := vk_R.warm hW0 hstr
  obtain ⟨U, hsteps, hrun, hend, hW, hsame, ce, hce, hO⟩ := X₁.ctorThrowS hexec htr (own := own) (cls := cls) (names := names) (ic := ic) hown' hcls hnames h (fun x hx => nomatch hx) hfX hkX hcellA (by rw [hhp, hT]; exact Nat.le_refl _) (msg := .ref sa) rfl
    (g := { method := m, pc := pc + 6, locals := ls, stack := .ref sa :: .ref T.heap.size :: .ref T.heap.size :: rest, locked := none }) rfl hsize rfl rfl (rest := rest) rfl
    (by rw [hb]; exact d6) (by rw [hb]; exact d9) hout hRframes (by simp only [List.map_cons, List.sum_cons, hcat]; omega) hlocks
  obtain ⟨f1, f2⟩ := vx_frame hsame
  rw [hhp] at f1 f2
  have hWs : s.WarmedH U.vm := State.WarmedH.trans hW0 hW
  have hcl : s.vm.findClass cls = some ce.cls := by
    have h9 := hO.cls
    rw [hvm] at h9
    exact h9
  have hall : s.sameButNew ({ U with vm := s.vm } : State) locs mc ms := by
    subst hA
    obtain ⟨e1, e2⟩ := hsame
    rw [State.setFrames_setFrames] at e1
    have h2 : (T.setVm s.vm).sameButNew ({ U with vm := s.vm } : State) [] (0 + 1) (0 + 6) := ⟨e1, e2⟩
    have h3 := X.same.trans h2
    rw [List.append_nil] at h3
    exact h3.mono hc hs
  refine ⟨U, ?_, .threw T.heap.size, hrun, hend, Or.inr ⟨T.heap.size, rfl, cls, ce, locs, hx U hWs.alike f1 (fun q hq => f2 q hq (fun z hz => nomatch hz)), hce, hO.vm, hcl, hWs, hall, hf⟩⟩
  refine st1 _ ?_
  show Steps p.tables e below (T1.setTop { method := m, pc := pc + 3, locals := ls, stack := .ref T.heap.size :: rest, locked := none }) _
  jvm_step X₁.here [X₁.here.top, hexec, d3', Value.category]
  exact X₁.ldcString hexec (own := own) (text := text) (index := is) (a := sa) hown' hstr'.1 hstr'.2
    (g := { method := m, pc := pc + 4, locals := ls, stack := .ref T.heap.size :: .ref T.heap.size :: rest, locked := none }) rfl d4' _ hsteps
/-- 'throw new E("text")', the text by a wide index -/
theorem vx_throwSW {cc : ByteArray} {pc : Nat} (hexec : p.tables.exec = Jvm.exec) (hb : c.code = cc) (hl : l.stackTraces = false) {own cls text : String} {names : List String} {ik is ic mc ms sa : Nat} {A : Nat → Prop}
    (hown : s.vm.findClass own = some m.cls) (hcls : Bundle.fit cls = true) (hnames : ∀ n ∈ names, Bundle.fit n = true)
    (hk : (Cond.classLink own ik cls).before args s = true) (hini : (Cond.initialized cls).before args s = true) (hstr : vk_R own is text sa s) (hat : ∀ w ∈ vx_atS own ic cls names, w.before args s = true)
    (hgood : ∀ w ∈ Cond.classLink own ik cls :: Cond.initialized cls :: vx_atS own ic cls names, vx_ot w = true)
    (hU : vx_Zq Bundle.tN "UNASSIGNED_STACK" Bundle.steD A s s.heap) (hN : vx_Zq Bundle.tN "SUPPRESSED_SENTINEL" Bundle.listD A s s.heap) (hS : va_S A s.heap H locs) (hsize : ls.size = c.maxLocals)
    (d0 : decode cc pc = .ok (.new ik, 3)) (d3 : decode cc (pc + 3) = .ok (.dup, 1)) (d4 : decode cc (pc + 4) = .ok (.ldc_w is, 3)) (d7 : decode cc (pc + 7) = .ok (.invokespecial ic, 3)) (d10 : decode cc (pc + 10) = .ok (.athrow, 1))
    (hout : ∀ x ∈ c.exceptionTable.toList, covers x (pc + 10) = false)
    (hRframes : names.length + 3 < R.frames) (hRlocals : (rest.map fun v => v.category).sum + (13 * (names.length + 1) + 43) ≤ R.locals) (hRcells : cells + 1 ≤ R.cells) (hRslots : slots + 6 ≤ R.slots) (hlocks : meth.locks = false)
    (hx : ∀ t : State, s.vm.Alike t.vm → H.size ≤ t.heap.size → (∀ q : Nat, q < H.size → t.heap[q]? = H[q]?) → XC cls s t)
    (hf : ∀ z ∈ locs, free z.base) (hc : cells + 1 ≤ mc) (hs : slots + 6 ≤ ms) :
    W p l e R s m args below meth c H locs cells slots (vx_MQ below Qc XC args s mc ms free) (F0 m pc ls rest) := by
  intro T hT X
  have htr : e.platform.stackTraces = false := (show e.platform.stackTraces = l.stackTraces by rw [X.admits.platform]).trans hl
  have Y := vx_rebase X (R' := { frames := R.frames, locals := R.locals, cells := 1, slots := 6 }) (Nat.le_refl _) (Nat.le_refl _) hRcells hRslots
  obtain ⟨s', hA⟩ : ∃ z, z = (T.setVm s.vm).setFrames (.invoking m args :: below) := ⟨_, rfl⟩
  rw [← hA] at Y
  have hvm : s'.vm = s.vm := by rw [hA]; rfl
  have hhp : s'.heap = H := by rw [hA]; exact hT
  have hW0 : s.WarmedH s'.vm := by rw [hvm]; exact State.WarmedH.refl s
  have hat' : ∀ w ∈ vx_atS own ic cls names, w.before args s' = true := fun w hw => vx_ot_at hW0 hvm.symm (hgood w (List.mem_cons_of_mem _ (List.mem_cons_of_mem _ hw))) (hat w hw)
  have hk' : (Cond.classLink own ik cls).before args s' = true := vx_ot_at hW0 hvm.symm (hgood _ List.mem_cons_self) hk
  have hini' : (Cond.initialized cls).before args s' = true := vx_ot_at hW0 hvm.symm (hgood _ (List.mem_cons_of_mem _ List.mem_cons_self)) hini
  have hU' : vx_Zq Bundle.tN "UNASSIGNED_STACK" Bundle.steD A s' s'.heap := by rw [hhp]; exact vx_Zq.moved hW0.alike (hU.kept hS.2.1)
  have hN' : vx_Zq Bundle.tN "SUPPRESSED_SENTINEL" Bundle.listD A s' s'.heap := by rw [hhp]; exact vx_Zq.moved hW0.alike (hN.kept hS.2.1)
  have h : ∀ w ∈ Bundle.ownAtoms own ic cls names, w.before args s' = true := vx_own hat' (vx_isRefq hU'.1) (vx_isRefq hN'.1) hU'.2.word hN'.2.word
  have hown' : s'.vm.findClass own = some m.cls := by rw [hvm]; exact hown
  have hins : (Cond.instantiable cls 6).before args s' = true := h _ (by simp [Bundle.ownAtoms])
  obtain ⟨vm₁, cX, kX, hfX, hkX, -, -, X₁, st1⟩ := Y.newCold hexec (own := own) (C := cls) (index := ik) (n := 6) hown' hk' hins hini'
    (g := F0 m pc ls rest) rfl (by rw [hb]; exact d0) (Nat.le_refl _) (Nat.le_refl _)
  generalize hT1 : (T.setVm vm₁).pushCell { cls := cX, slots := kX.instanceTypes.map defaultValue, vm := .none } = T1 at X₁ st1
  have hcat : (Value.ref T.heap.size).category = 1 := rfl
  have hcellA : T1.heap[T.heap.size]? = some (freshCell cX kX) := by rw [← hT1]; exact State.heap_pushCell_size _ _
  have d3' : decode c.code (pc + 3) = .ok (.dup, 1) := by rw [hb]; exact d3
  have d4' : decode c.code (pc + 4) = .ok (.ldc_w is, 3) := by rw [hb]; exact d4
  have hstr' : vk_R own is text sa s' := vk_R.warm hW0 hstr
  obtain ⟨U, hsteps, hrun, hend, hW, hsame, ce, hce, hO⟩ := X₁.ctorThrowS hexec htr (own := own) (cls := cls) (names := names) (ic := ic) hown' hcls hnames h (fun x hx => nomatch hx) hfX hkX hcellA (by rw [hhp, hT]; exact Nat.le_refl _) (msg := .ref sa) rfl
    (g := { method := m, pc := pc + 7, locals := ls, stack := .ref sa :: .ref T.heap.size :: .ref T.heap.size :: rest, locked := none }) rfl hsize rfl rfl (rest := rest) rfl
    (by rw [hb]; exact d7) (by rw [hb]; exact d10) hout hRframes (by simp only [List.map_cons, List.sum_cons, hcat]; omega) hlocks
  obtain ⟨f1, f2⟩ := vx_frame hsame
  rw [hhp] at f1 f2
  have hWs : s.WarmedH U.vm := State.WarmedH.trans hW0 hW
  have hcl : s.vm.findClass cls = some ce.cls := by
    have h9 := hO.cls
    rw [hvm] at h9
    exact h9
  have hall : s.sameButNew ({ U with vm := s.vm } : State) locs mc ms := by
    subst hA
    obtain ⟨e1, e2⟩ := hsame
    rw [State.setFrames_setFrames] at e1
    have h2 : (T.setVm s.vm).sameButNew ({ U with vm := s.vm } : State) [] (0 + 1) (0 + 6) := ⟨e1, e2⟩
    have h3 := X.same.trans h2
    rw [List.append_nil] at h3
    exact h3.mono hc hs
  refine ⟨U, ?_, .threw T.heap.size, hrun, hend, Or.inr ⟨T.heap.size, rfl, cls, ce, locs, hx U hWs.alike f1 (fun q hq => f2 q hq (fun z hz => nomatch hz)), hce, hO.vm, hcl, hWs, hall, hf⟩⟩
  refine st1 _ ?_
  show Steps p.tables e below (T1.setTop { method := m, pc := pc + 3, locals := ls, stack := .ref T.heap.size :: rest, locked := none }) _
  jvm_step X₁.here [X₁.here.top, hexec, d3', Value.category]
  exact X₁.ldcStringW hexec (own := own) (text := text) (index := is) (a := sa) hown' hstr'.1 hstr'.2
    (g := { method := m, pc := pc + 4, locals := ls, stack := .ref T.heap.size :: .ref T.heap.size :: rest, locked := none }) rfl d4' _ hsteps
end Ends
section Bodies
variable {l : Launch}
theorem vx_ofW {y : MethodName} {ws ws' : List Cond} {rm : Room} {Pc : Array Value → State → Prop} {Qc : Array Value → State → Outcome → State → Prop} {XC : String → State → State → Prop} {mc ms : Nat} {free : Addr → Prop} {cc : ByteArray} {maxL : Nat} {ret : Option FieldType}
    (hy : plainName y.cls = true) (hw : ws = Cond.code y cc maxL ret :: ws')
    (body : ∀ p e s m args below meth c s₁, BodyLoose p l y (headSpec ws rm) cc maxL ret e s m args below meth c s₁ → c.maxLocals = maxL → (∀ x ∈ c.exceptionTable.toList, False) → Pc args s →
      W p l e (headSpec ws rm).room s m args below meth c s.heap [] 0 0 (vx_MQ below Qc XC args s mc ms free) (entryFrame m args maxL)) : vx_Met l y ws rm Pc Qc XC mc ms free := by
  refine MetFree.of_bodyS (code := cc) (maxLocals := maxL) (ret := ret) hy ?_ ?_
  · intro args s m h hn
    obtain ⟨meth, c, h1, h2, h3, h4, h5, h6, -, -⟩ := Cond.code_spec hn (atoms_spec (ws := ws) h _ (by rw [hw]; exact List.mem_cons_self))
    exact ⟨meth, c, h1, h2, h3, h4, h5, h6⟩
  · intro p e s m args below meth c s₁ B hml hP _
    have hh0 : s₁.heap = s.heap := by rw [B.state]; rfl
    have ht : ∀ x ∈ c.exceptionTable.toList, False := by
      obtain ⟨meth9, c9, h1, h2, -, -, -, -, h7, -⟩ := Cond.code_spec B.named (atoms_spec (ws := ws) B.pre _ (by rw [hw]; exact List.mem_cons_self))
      cases Option.some.inj (h1.symm.trans B.method)
      cases Option.some.inj (h2.symm.trans (Stand.of_body B).code)
      intro x hx
      rw [Array.isEmpty_iff.mp h7] at hx
      cases hx
    obtain ⟨t, a1, o, b1, b2, b3⟩ := body p e s m args below meth c s₁ B hml ht hP s₁ hh0 (Stand.of_body B)
    exact ⟨t, o, a1, b1, b2, b3⟩
/-- the table of a body with handlers -/
theorem vx_table {p : Program} {x y : MethodName} {S : Spec} {cc bytes : ByteArray} {maxL maxL' : Nat} {ret ret' : Option FieldType} {e : Env} {s s₁ : State} {m : MethodId} {args : Array Value} {below : List Frame} {meth : Method} {c : Code} {hh : List (Nat × Nat × Nat × Nat)}
    (B : BodyLoose p l y S cc maxL ret e s m args below meth c s₁) (h : (Cond.codeWith y bytes maxL' ret' hh).before args s = true) : c.exceptionTable.toList = tableOf hh := by
  obtain ⟨m9, meth9, c9, hn9, h1, h2, -, -, h6, -⟩ := Cond.codeWith_spec h
  cases Option.some.inj (hn9.symm.trans B.named)
  cases Option.some.inj (h1.symm.trans B.method)
  cases Option.some.inj (h2.symm.trans (Stand.of_body B).code)
  rw [← h6, table_eq]
end Bodies
end VXA
/-! ===== END ===== -/
/-! ===== BEGIN a static call of a method with an exception table ===== -/
section VXS
variable {p : Program} {l : Launch} {e : Env} {R : Room} {s : State} {m : MethodId} {args : Array Value} {below : List Frame} {meth : Method} {c : Code} {T : State} {H : Heap} {locs : List Loc} {cells slots : Nat}
abbrev vx_CSW (R : Room) (s : State) (args : Array Value) (own : String) (index : Nat) (y : MethodName) (bytes : ByteArray) (maxL : Nat) (ret : Option FieldType) (hh : List (Nat × Nat × Nat × Nat)) (ws : List Cond) (rm : Room) (mc ms n : Nat) : Prop :=
  (rm.cells = mc ∧ rm.slots = ms ∧ rm.frames + 1 ≤ R.frames ∧ 8 + (maxL + 11) + rm.locals ≤ R.locals ∧ (∀ w ∈ ws, ∀ (a' : Array Value) (U : State), s.WarmedH U.vm → w.before a' U = true) ∧ Cond.codeWith y bytes maxL ret hh ∈ ws) ∧
  (Cond.codeWith y bytes maxL ret hh).before args s = true ∧ (Cond.initialized y.cls).before args s = true ∧ (y.cls ≠ "java/lang/invoke/MethodHandle" ∧ y.cls ≠ "java/lang/invoke/VarHandle") ∧
  (∀ sig, parseMethodDescriptor y.desc = some sig → n = sig.parameters.length) ∧ (Cond.methodLink own index y).before args s = true ∧ (Cond.static y).before args s = true
theorem vx_cwSW {own : String} {index maxL mc ms : Nat} {y : MethodName} {bytes : ByteArray} {ret : Option FieldType} {hh : List (Nat × Nat × Nat × Nat)} {Ts ws ws' : List Cond} {rm : Room} (n : Nat) (ht : ∀ w ∈ Ts, w.before args s = true) (hT : GoodIn Ts (va_wsS own index y ws)) (hw : ws = Cond.codeWith y bytes maxL ret hh :: ws') (hrc : rm.cells = mc) (hrs : rm.slots = ms)
    (hd : y.cls ≠ "java/lang/invoke/MethodHandle" ∧ y.cls ≠ "java/lang/invoke/VarHandle" ∧ (parseMethodDescriptor y.desc).map (fun d => d.parameters.length) = some n) (hR : rm.frames + 1 ≤ R.frames ∧ 8 + (maxL + 11) + rm.locals ≤ R.locals) :
    vx_CSW R s args own index y bytes maxL ret hh ws rm mc ms n := by
  have ok : ∀ w ∈ va_wsS own index y ws, w.before args s = true := fun w h => ht w (hT w h).1
  have hG : GoodIn Ts ws := fun w h => hT w (by unfold va_wsS; exact List.mem_append_right _ h)
  have hc : Cond.codeWith y bytes maxL ret hh ∈ ws := by rw [hw]; exact List.mem_cons_self
  refine ⟨⟨hrc, hrs, hR.1, hR.2, pay_in ht hG, hc⟩, ht _ (hG _ hc).1, ok _ (by simp [va_wsS]), ⟨hd.1, hd.2.1⟩, fun sig h => ?_, ok _ (by simp [va_wsS]), ok _ (by simp [va_wsS])⟩
  have h2 := hd.2.2
  rw [h] at h2
  exact (Option.some.inj h2).symm
theorem vx_callSW (X : Stand p l e R s m args below meth c T locs cells slots) (hexec : p.tables.exec = Jvm.exec) {own : String} {index : Nat} {y : MethodName} {bytes : ByteArray} {maxL : Nat} {ret : Option FieldType} {hh : List (Nat × Nat × Nat × Nat)}
    (hown : s.vm.findClass own = some m.cls) (hlink : (Cond.methodLink own index y).before args s = true) (hstat : (Cond.static y).before args s = true) (hinit : (Cond.initialized y.cls).before args s = true)
    (hcode : (Cond.codeWith y bytes maxL ret hh).before args s = true) (hy : y.cls ≠ "java/lang/invoke/MethodHandle" ∧ y.cls ≠ "java/lang/invoke/VarHandle")
    {W9 : Nat} {Pre : Pt → Array Value → Prop} {Post : Pt → Array Value → Option Value → Pt → Prop} (hK : Back l R p e below s args y 3 W9 Pre Post)
    {g : JFrame} (hg : g.method = m) (hsize : g.locals.size = c.maxLocals) {argsL rest : List Value} (hlen : ∀ sig, parseMethodDescriptor y.desc = some sig → argsL.length = sig.parameters.length)
    (hstack : g.stack = argsL.reverse ++ rest) (hW : 2 * g.monitorRoom + (rest.map fun v => v.category).sum ≤ W9) (hdg : decode c.code g.pc = .ok (.invokestatic index, 3))
    (hpre : ∀ vm₁, s.WarmedH vm₁ → Pre ⟨T.setVm vm₁, locs, cells, slots⟩ argsL.toArray) :
    ∃ (v : Option Value) (vm₁ : Vm) (B : Pt), s.WarmedH vm₁ ∧ Stand p l e R s m args below meth c B.U B.locs B.cells B.slots ∧ Post ⟨T.setVm vm₁, locs, cells, slots⟩ argsL.toArray v B ∧
      ∀ target, Steps p.tables e below (B.U.setTop { g with pc := g.pc + 3, stack := v.toList ++ rest }) target → Steps p.tables e below (T.setTop g) target := by
  obtain ⟨mk, methM, cM, hnamed, hmethM, -, -, -, -, -, -, hsigM⟩ := Cond.codeWith_spec hcode
  have hstatic : methM.isStatic = true := Cond.static_spec hnamed hmethM hstat
  obtain ⟨kP, hkP, -⟩ := className_of_methodNamed hnamed
  have hinitP : kP.init = .initialized := Cond.initialized_spec (findClass_of_methodNamed hnamed) hkP hinit
  obtain ⟨vm₁, X₁, hstep₁⟩ := X.invokestatic hexec hown hlink hnamed hmethM hstatic hkP hinitP hy (g := g) hg (argsL := argsL) (rest := rest) (hlen _ hsigM) hstack hdg
  obtain ⟨v, B, X', hpost, hsteps⟩ := hK m meth c ⟨T.setVm vm₁, locs, cells, slots⟩ { g with stack := rest } (.invokestatic index) mk argsL.toArray X₁ hg hsize hdg hW (X₁.named hnamed) (hpre vm₁ X₁.warmed)
  exact ⟨v, vm₁, B, X₁.warmed, X', hpost, fun target h => hstep₁ _ fun acts => by rw [doInvoke_state]; exact hsteps.trans h⟩
theorem vx_runSW {y : MethodName} {bytes cc : ByteArray} {maxL nL mc ms n index : Nat} {ret : Option FieldType} {hh : List (Nat × Nat × Nat × Nat)} {ws : List Cond} {rm : Room} {Pc : Array Value → State → Prop} {Qc : Array Value → State → Outcome → State → Prop} {free : Addr → Prop} {Ts : List Cond} {own : String} {As rest : List Value} {g : JFrame}
    (S : CallFix p m c cc nL s args Ts own) (hM : Met l y ws rm Pc Qc mc ms free) (cw : vx_CSW R s args own index y bytes maxL ret hh ws rm mc ms n) (hp : PreS s H Pc As)
    (hg : g.method = m) (hn : As.length = n) (hsize : g.locals.size = nL) (hstack : g.stack = As.reverse ++ rest) (hW : 2 * g.monitorRoom + (rest.map fun v => v.category).sum ≤ 8) (hdg : decode cc g.pc = .ok (.invokestatic index, 3)) (hf : cells + mc ≤ R.cells ∧ slots + ms ≤ R.slots) :
    va_Run p l e R s m args below meth c H locs cells slots mc ms g rest (Qc As.toArray) (free) := by
  obtain ⟨⟨hrc, hrs, hfr, hlo, hws, hcw⟩, hcode, hini, hy, hlen, hl, hstt⟩ := cw
  have hK : Back l R p e below s args y 3 8 (PreOf R mc ms Pc) (PostOf Qc mc ms free) := va_backW (hh := hh) (bytes := bytes) (maxL := maxL) (ret := ret) hM hp.1 hrc hrs hfr hlo hws hcw (fun a' U hW => word_at hW (Or.inl (by first | rfl | simp [Cond.onTables, Cond.keeps, Cond.steady])) hini)
  obtain ⟨hx, hb, hml, ho, -⟩ := S
  intro T hT X
  obtain ⟨v, vm₁, ⟨U', l2, c2, s2⟩, hW₁, X', ⟨g', mk, t, L, e1, e2, hq, h1, hL, h2, h3⟩, st⟩ := vx_callSW X hx (hh := hh) (bytes := bytes) (maxL := maxL) (ret := ret) ho hl hstt hini hcode hy hK hg (hsize.trans hml.symm) (argsL := As) (rest := rest) (fun sig h => hn.trans (hlen sig h)) hstack hW (by rw [hb]; exact hdg)
    (fun vm₁ hW₁ => ⟨hf.1, hf.2, hp.2 (T.setVm vm₁) hT hW₁⟩)
  dsimp only [Pt.U, Pt.locs, Pt.cells, Pt.slots] at X' e1 e2 h1 h2 h3 st
  subst h1; subst h2; subst h3
  exact ⟨v, (T.setVm vm₁).calling g' mk As.toArray, t, U', L, hT, X', hL, e1, e2, hq, st⟩
/-- a thing of a world lies in the heap -/
theorem vx_lt {D : va_G} {cl : List vw_C} {ws : va_W} {H1 : Heap} (h : va_P D cl ws H1) {k : Nat} {q : Nat × va_E} (hk : ws[k]? = some q) : q.1 < H1.size := (h k q hk).lt
end VXS
/-! ===== END ===== -/
/-! ===== BEGIN methods with a table of their own: called by a name, returning or throwing ===== -/
section VXH
/-! vx_backW, vx_callVX, vx_callSX, vx_callVW, vx_runVW, vx_runVX, vx_runSX, vx_ofWH follow the same proofs as their sisters above (Free/Laws.lean, Shelf42/LK1.lean); vx_outP calls Shelf42/NT130.lean (outThrough). -/
section
variable {l : Launch} {R : Room} {p : Program} {e : Env} {below : List Frame} {s : State} {sargs : Array Value} {y : MethodName} {len W9 : Nat}
theorem vx_backW {ws : List Cond} {rm : Room} {Pc : Array Value → State → Prop} {Qc : Array Value → State → Outcome → State → Prop} {XC : String → State → State → Prop} {mc ms : Nat} {free : Addr → Prop} {bytes : ByteArray} {maxL : Nat} {ret : Option FieldType} {hh : List (Nat × Nat × Nat × Nat)}
    (hM : vx_Met l y ws rm Pc Qc XC mc ms free) (hblind : FrameBlind Pc) (hrc : rm.cells = mc) (hrs : rm.slots = ms)
    (hframes : rm.frames + 1 ≤ R.frames) (hlocals : W9 + (maxL + 11) + rm.locals ≤ R.locals)
    (hws : ∀ w ∈ ws, ∀ a' U, s.WarmedH U.vm → w.before a' U = true) (hcode : Cond.codeWith y bytes maxL ret hh ∈ ws) (hinit : ∀ a' U, s.WarmedH U.vm → (Cond.initialized y.cls).before a' U = true) :
    vx_Back l R p e below s sargs y len W9 (PreOf R mc ms Pc) (PostOf Qc mc ms free) (vx_Post XC mc ms free) := by
  intro m meth c A g ig mk a X hg hsize hdg hW hn hp
  have h1 : (headSpec ws rm).pre.before a A.U = true := atoms_intro fun w hw => hws w hw _ _ X.warmed
  have h2 : (Cond.codeWith y bytes maxL ret hh).before a A.U = true := hws _ hcode _ _ X.warmed
  have h3 : (Cond.initialized y.cls).before a A.U = true := hinit _ _ X.warmed
  have h4 : A.cells + (headSpec ws rm).room.cells ≤ R.cells := by rw [show (headSpec ws rm).room.cells = mc from hrc]; exact hp.1
  have h5 : A.slots + (headSpec ws rm).room.slots ≤ R.slots := by rw [show (headSpec ws rm).room.slots = ms from hrs]; exact hp.2.1
  have hPc : Pc a (A.U.calling g mk a) := hblind _ _ _ _ hp.2.2
  obtain ⟨U, Ls, c0, s0⟩ := A
  dsimp only [Pt.U, Pt.locs, Pt.cells, Pt.slots] at h1 h2 h3 h4 h5 X hn hPc ⊢
  obtain ⟨m9, methY, cY, hn9, hmY, hcY, -, hlY, -⟩ := Cond.codeWith_spec h2
  cases Option.some.inj (hn9.symm.trans hn)
  obtain ⟨kY, hkY, -⟩ := className_of_methodNamed hn
  have hinitY : kY.init = .initialized := Cond.initialized_spec (findClass_of_methodNamed hn) hkY h3
  have h : At U g.method c below := by rw [hg]; exact X.here
  have hlocals9 : W9 + (maxL + 11) + (headSpec ws rm).room.locals ≤ R.locals := hlocals
  have happ : (headSpec ws rm).appliesLoose y e.platform (U.calling g mk a) = true :=
    Spec.appliesLoose_calling (g := g) h hdg hn hkY hinitY
      (X.room_calling (g := g) (R' := (headSpec ws rm).room) hsize hmY hcY hframes (by rw [hlY]; omega) h4 h5) h1
  obtain ⟨mid, hmid⟩ := h.above
  have hfr : (U.setTop g).frames = (.java g :: mid) ++ below := by rw [State.frames_setTop' g h.top, hmid]; rfl
  obtain ⟨o, s₂, hsteps, -, hend, hq⟩ := Steps.callFree hM p X.admits X.cas X.clock (acts := []) hfr happ hPc trivial
  have hq' : vx_Q Qc XC mc ms free a (U.calling g mk a) o s₂ := hq
  rw [State.frames_setTop' g h.top] at hend
  obtain ⟨g₀, hg0⟩ := Option.isSome_iff_exists.mp h.top
  obtain ⟨r, hr⟩ := State.topJava?_eq_some.mp hg0
  have hr' : (({ U with heap := s₂.heap, slotsUsed := s₂.slotsUsed } : State).setVm s₂.vm).frames = .java g₀ :: r := hr
  rcases hq' with ⟨hqc, L, hfe, hL⟩ | ⟨q, rfl, E, ce, L, hx, hce, hcv, hcl, hW₂, hsm, hL⟩
  · obtain ⟨⟨v, rfl⟩, hW₂, e2, q2, q3, q4, q5, q6⟩ := id hfe
    have e3 : s₂ = ({ (U.calling g mk a).setFrames s₂.frames with heap := s₂.heap, slotsUsed := s₂.slotsUsed } : State).setVm s₂.vm := by
      have : s₂ = ({ s₂ with vm := (U.calling g mk a).vm } : State).setVm s₂.vm := rfl
      rw [e2] at this
      exact this
    obtain ⟨c₂, i₂, len₂, hc₂, hd₂, hf₂⟩ := hend
    have hW' : U.WarmedH s₂.vm := hW₂
    have hcc : c₂ = c := by
      have h1 : s₂.code? g.method = U.code? g.method := by
        rw [State.code?_eq, State.code?_eq, hW'.alike.method?]
      exact Option.some.inj (hc₂.symm.trans (h1.trans h.code))
    subst hcc
    have hlen : len₂ = len := by rw [hdg] at hd₂; cases hd₂; rfl
    subst hlen
    have hs₂ : s₂ = (({ U with heap := s₂.heap, slotsUsed := s₂.slotsUsed } : State).setVm s₂.vm).setTop { g with pc := g.pc + len₂, stack := v.toList ++ g.stack } := by
      refine e3.trans ?_
      rw [hf₂, State.calling_eq h.top, State.setFrames_setFrames, State.setTop_of_frames _ hr', hr]
      rfl
    have hsame : U.sameButNew ({ U with heap := s₂.heap, slotsUsed := s₂.slotsUsed } : State) L mc ms := by
      refine ⟨?_, q2, q3, q4, q5, q6⟩
      obtain ⟨t, ht, -⟩ := State.frames_cons hr
      show ({ U with heap := s₂.heap, slotsUsed := s₂.slotsUsed } : State) = { U.setFrames U.frames with heap := s₂.heap, slotsUsed := s₂.slotsUsed }
      rw [State.setFrames_self ht]
    subst hg
    refine Or.inl ⟨v, ⟨(({ U with heap := s₂.heap, slotsUsed := s₂.slotsUsed } : State).setVm s₂.vm), Ls ++ L, c0 + mc, s0 + ms⟩,
      ⟨X.admits, X.cas, X.clock, X.frames, X.room, X.hears, X.method, X.code, (X.here.setHeapUsed s₂.heap s₂.slotsUsed).setVm hW'.alike, X.tail, State.WarmedH.trans X.warmed hW', X.limits, X.bytes, X.same.trans (hsame.setVm s.vm)⟩,
      ⟨g, mk, s₂, L, rfl, rfl, hqc, rfl, hL, rfl, rfl⟩, ?_⟩
    show Steps p.tables e below _ ((({ U with heap := s₂.heap, slotsUsed := s₂.slotsUsed } : State).setVm s₂.vm).setTop { g with pc := g.pc + len₂, stack := v.toList ++ g.stack })
    rw [← hs₂]
    exact hsteps
  · obtain ⟨e2, q2, q3, q4, q5, q6⟩ := id hsm
    have e3 : s₂ = ({ (U.calling g mk a).setFrames s₂.frames with heap := s₂.heap, slotsUsed := s₂.slotsUsed } : State).setVm s₂.vm := by
      have : s₂ = ({ s₂ with vm := (U.calling g mk a).vm } : State).setVm s₂.vm := rfl
      rw [e2] at this
      exact this
    have hf₂ : s₂.frames = .throwing q :: .java g :: U.frames.tail := hend
    have hW' : U.WarmedH s₂.vm := hW₂
    have hs₂ : s₂ = ((({ U with heap := s₂.heap, slotsUsed := s₂.slotsUsed } : State).setVm s₂.vm).setTop g).pushFrame (.throwing q) := by
      refine e3.trans ?_
      rw [hf₂, State.calling_eq h.top, State.setFrames_setFrames, State.pushFrame, State.frames_setTop _ hr', State.setTop_of_frames _ hr', State.setFrames_setFrames, hr]
      rfl
    have hsame : U.sameButNew ({ U with heap := s₂.heap, slotsUsed := s₂.slotsUsed } : State) L mc ms := by
      refine ⟨?_, q2, q3, q4, q5, q6⟩
      obtain ⟨t, ht, -⟩ := State.frames_cons hr
      show ({ U with heap := s₂.heap, slotsUsed := s₂.slotsUsed } : State) = { U.setFrames U.frames with heap := s₂.heap, slotsUsed := s₂.slotsUsed }
      rw [State.setFrames_self ht]
    subst hg
    refine Or.inr ⟨q, ⟨(({ U with heap := s₂.heap, slotsUsed := s₂.slotsUsed } : State).setVm s₂.vm), Ls ++ L, c0 + mc, s0 + ms⟩,
      ⟨X.admits, X.cas, X.clock, X.frames, X.room, X.hears, X.method, X.code, (X.here.setHeapUsed s₂.heap s₂.slotsUsed).setVm hW'.alike, X.tail, State.WarmedH.trans X.warmed hW', X.limits, X.bytes, X.same.trans (hsame.setVm s.vm)⟩,
      ⟨g, mk, s₂, L, E, ce, rfl, rfl, hx, hce, hcv, hcl, rfl, hL, rfl, rfl⟩, ?_⟩
    show Steps p.tables e below _ (((({ U with heap := s₂.heap, slotsUsed := s₂.slotsUsed } : State).setVm s₂.vm).setTop g).pushFrame (.throwing q))
    rw [← hs₂]
    exact hsteps
end
variable {p : Program} {l : Launch} {e : Env} {R : Room} {s : State} {m : MethodId} {args : Array Value} {below : List Frame} {meth : Method} {c : Code} {T : State} {H : Heap} {locs : List Loc} {cells slots : Nat}
theorem vx_callVX (X : Stand p l e R s m args below meth c T locs cells slots) (hexec : p.tables.exec = Jvm.exec) {own C : String} {index : Nat} {y : MethodName} {bytes : ByteArray} {maxL : Nat} {ret : Option FieldType} {hh : List (Nat × Nat × Nat × Nat)}
    (hown : s.vm.findClass own = some m.cls) (hlink : (Cond.methodLink own index y).before args s = true) (hinst : (Cond.instanceMethod y).before args s = true) (hsel : (Cond.selects C y y).before args s = true)
    (hcode : (Cond.codeWith y bytes maxL ret hh).before args s = true) (hy : y.cls ≠ "java/lang/invoke/MethodHandle" ∧ y.cls ≠ "java/lang/invoke/VarHandle")
    {W9 : Nat} {Pre : Pt → Array Value → Prop} {Post : Pt → Array Value → Option Value → Pt → Prop} {PostX : Pt → Array Value → Addr → Pt → Prop} (hK : vx_Back l R p e below s args y 3 W9 Pre Post PostX)
    {b : Addr} {cellB : Cell} (hcell : T.heap[b]? = some cellB) (hobj : cellB.vm.isStatics = false) (hcls : s.vm.findClass C = some cellB.cls)
    {g : JFrame} (hg : g.method = m) (hsize : g.locals.size = c.maxLocals) {argsL rest : List Value} (hlen : ∀ sig, parseMethodDescriptor y.desc = some sig → argsL.length = sig.parameters.length)
    (hstack : g.stack = argsL.reverse ++ .ref b :: rest) (hW : 2 * g.monitorRoom + (rest.map fun v => v.category).sum ≤ W9) (hdg : decode c.code g.pc = .ok (.invokevirtual index, 3))
    (hpre : ∀ vm₁, s.WarmedH vm₁ → Pre ⟨T.setVm vm₁, locs, cells, slots⟩ (Value.ref b :: argsL).toArray) :
    (∃ (v : Option Value) (vm₁ : Vm) (B : Pt), s.WarmedH vm₁ ∧ Stand p l e R s m args below meth c B.U B.locs B.cells B.slots ∧ Post ⟨T.setVm vm₁, locs, cells, slots⟩ (Value.ref b :: argsL).toArray v B ∧
      ∀ target, Steps p.tables e below (B.U.setTop { g with pc := g.pc + 3, stack := v.toList ++ rest }) target → Steps p.tables e below (T.setTop g) target) ∨
    (∃ (q : Addr) (vm₁ : Vm) (B : Pt), s.WarmedH vm₁ ∧ Stand p l e R s m args below meth c B.U B.locs B.cells B.slots ∧ PostX ⟨T.setVm vm₁, locs, cells, slots⟩ (Value.ref b :: argsL).toArray q B ∧
      Steps p.tables e below (T.setTop g) ((B.U.setTop { g with stack := rest }).pushFrame (.throwing q))) := by
  obtain ⟨mk, methM, hnamed, hmethM, hstM, habM⟩ := Cond.instanceMethod_spec hinst
  obtain ⟨m8, methM', cM, hn8, hmethM', -, -, -, -, -, -, hsigM⟩ := Cond.codeWith_spec hcode
  cases Option.some.inj (hn8.symm.trans hnamed)
  cases hmethM.symm.trans hmethM'
  obtain ⟨c2, r2, m2, q1, q2, q3, q4, kP, hkP, hkPi⟩ := Cond.selects_spec hsel
  cases hcls.symm.trans q1
  cases (State.methodFound?_of_named hnamed hy).symm.trans q2
  cases hnamed.symm.trans q3
  have hselP : selectMethod e.platform s.vm cellB.cls mk = .method mk := by rw [Launch.admits_selectMethod X.admits]; exact q4
  obtain ⟨vm₁, X₁, hstep₁⟩ := X.invokevirtual hexec hown hlink hnamed hmethM hstM hkP hkPi hy (a := b) (cell := cellB) hcell
    (fun z h => by rw [h] at hobj; cases hobj) hselP hmethM habM hkP hkPi (g := g) hg (argsL := argsL) (rest := rest) (hlen _ hsigM) hstack hdg
  rcases hK m meth c ⟨T.setVm vm₁, locs, cells, slots⟩ { g with stack := rest } (.invokevirtual index) mk (Value.ref b :: argsL).toArray X₁ hg hsize hdg hW (X₁.named hnamed) (hpre vm₁ X₁.warmed) with ⟨v, B, X', hpost, hsteps⟩ | ⟨q, B, X', hpost, hsteps⟩
  · exact Or.inl ⟨v, vm₁, B, X₁.warmed, X', hpost, fun target h => hstep₁ _ fun acts => by rw [doInvoke_state]; exact hsteps.trans h⟩
  · exact Or.inr ⟨q, vm₁, B, X₁.warmed, X', hpost, hstep₁ _ fun acts => by rw [doInvoke_state]; exact hsteps⟩
theorem vx_callSX (X : Stand p l e R s m args below meth c T locs cells slots) (hexec : p.tables.exec = Jvm.exec) {own : String} {index : Nat} {y : MethodName} {bytes : ByteArray} {maxL : Nat} {ret : Option FieldType} {hh : List (Nat × Nat × Nat × Nat)}
    (hown : s.vm.findClass own = some m.cls) (hlink : (Cond.methodLink own index y).before args s = true) (hstat : (Cond.static y).before args s = true) (hinit : (Cond.initialized y.cls).before args s = true)
    (hcode : (Cond.codeWith y bytes maxL ret hh).before args s = true) (hy : y.cls ≠ "java/lang/invoke/MethodHandle" ∧ y.cls ≠ "java/lang/invoke/VarHandle")
    {W9 : Nat} {Pre : Pt → Array Value → Prop} {Post : Pt → Array Value → Option Value → Pt → Prop} {PostX : Pt → Array Value → Addr → Pt → Prop} (hK : vx_Back l R p e below s args y 3 W9 Pre Post PostX)
    {g : JFrame} (hg : g.method = m) (hsize : g.locals.size = c.maxLocals) {argsL rest : List Value} (hlen : ∀ sig, parseMethodDescriptor y.desc = some sig → argsL.length = sig.parameters.length)
    (hstack : g.stack = argsL.reverse ++ rest) (hW : 2 * g.monitorRoom + (rest.map fun v => v.category).sum ≤ W9) (hdg : decode c.code g.pc = .ok (.invokestatic index, 3))
    (hpre : ∀ vm₁, s.WarmedH vm₁ → Pre ⟨T.setVm vm₁, locs, cells, slots⟩ argsL.toArray) :
    (∃ (v : Option Value) (vm₁ : Vm) (B : Pt), s.WarmedH vm₁ ∧ Stand p l e R s m args below meth c B.U B.locs B.cells B.slots ∧ Post ⟨T.setVm vm₁, locs, cells, slots⟩ argsL.toArray v B ∧
      ∀ target, Steps p.tables e below (B.U.setTop { g with pc := g.pc + 3, stack := v.toList ++ rest }) target → Steps p.tables e below (T.setTop g) target) ∨
    (∃ (q : Addr) (vm₁ : Vm) (B : Pt), s.WarmedH vm₁ ∧ Stand p l e R s m args below meth c B.U B.locs B.cells B.slots ∧ PostX ⟨T.setVm vm₁, locs, cells, slots⟩ argsL.toArray q B ∧
      Steps p.tables e below (T.setTop g) ((B.U.setTop { g with stack := rest }).pushFrame (.throwing q))) := by
  obtain ⟨mk, methM, cM, hnamed, hmethM, -, -, -, -, -, -, hsigM⟩ := Cond.codeWith_spec hcode
  have hstatic : methM.isStatic = true := Cond.static_spec hnamed hmethM hstat
  obtain ⟨kP, hkP, -⟩ := className_of_methodNamed hnamed
  have hinitP : kP.init = .initialized := Cond.initialized_spec (findClass_of_methodNamed hnamed) hkP hinit
  obtain ⟨vm₁, X₁, hstep₁⟩ := X.invokestatic hexec hown hlink hnamed hmethM hstatic hkP hinitP hy (g := g) hg (argsL := argsL) (rest := rest) (hlen _ hsigM) hstack hdg
  rcases hK m meth c ⟨T.setVm vm₁, locs, cells, slots⟩ { g with stack := rest } (.invokestatic index) mk argsL.toArray X₁ hg hsize hdg hW (X₁.named hnamed) (hpre vm₁ X₁.warmed) with ⟨v, B, X', hpost, hsteps⟩ | ⟨q, B, X', hpost, hsteps⟩
  · exact Or.inl ⟨v, vm₁, B, X₁.warmed, X', hpost, fun target h => hstep₁ _ fun acts => by rw [doInvoke_state]; exact hsteps.trans h⟩
  · exact Or.inr ⟨q, vm₁, B, X₁.warmed, X', hpost, hstep₁ _ fun acts => by rw [doInvoke_state]; exact hsteps⟩
theorem vx_callVW (X : Stand p l e R s m args below meth c T locs cells slots) (hexec : p.tables.exec = Jvm.exec) {own C : String} {index : Nat} {y : MethodName} {bytes : ByteArray} {maxL : Nat} {ret : Option FieldType} {hh : List (Nat × Nat × Nat × Nat)}
    (hown : s.vm.findClass own = some m.cls) (hlink : (Cond.methodLink own index y).before args s = true) (hinst : (Cond.instanceMethod y).before args s = true) (hsel : (Cond.selects C y y).before args s = true)
    (hcode : (Cond.codeWith y bytes maxL ret hh).before args s = true) (hy : y.cls ≠ "java/lang/invoke/MethodHandle" ∧ y.cls ≠ "java/lang/invoke/VarHandle")
    {W9 : Nat} {Pre : Pt → Array Value → Prop} {Post : Pt → Array Value → Option Value → Pt → Prop} (hK : Back l R p e below s args y 3 W9 Pre Post)
    {b : Addr} {cellB : Cell} (hcell : T.heap[b]? = some cellB) (hobj : cellB.vm.isStatics = false) (hcls : s.vm.findClass C = some cellB.cls)
    {g : JFrame} (hg : g.method = m) (hsize : g.locals.size = c.maxLocals) {argsL rest : List Value} (hlen : ∀ sig, parseMethodDescriptor y.desc = some sig → argsL.length = sig.parameters.length)
    (hstack : g.stack = argsL.reverse ++ .ref b :: rest) (hW : 2 * g.monitorRoom + (rest.map fun v => v.category).sum ≤ W9) (hdg : decode c.code g.pc = .ok (.invokevirtual index, 3))
    (hpre : ∀ vm₁, s.WarmedH vm₁ → Pre ⟨T.setVm vm₁, locs, cells, slots⟩ (Value.ref b :: argsL).toArray) :
    ∃ (v : Option Value) (vm₁ : Vm) (B : Pt), s.WarmedH vm₁ ∧ Stand p l e R s m args below meth c B.U B.locs B.cells B.slots ∧ Post ⟨T.setVm vm₁, locs, cells, slots⟩ (Value.ref b :: argsL).toArray v B ∧
      ∀ target, Steps p.tables e below (B.U.setTop { g with pc := g.pc + 3, stack := v.toList ++ rest }) target → Steps p.tables e below (T.setTop g) target := by
  obtain ⟨mk, methM, hnamed, hmethM, hstM, habM⟩ := Cond.instanceMethod_spec hinst
  obtain ⟨m8, methM', cM, hn8, hmethM', -, -, -, -, -, -, hsigM⟩ := Cond.codeWith_spec hcode
  cases Option.some.inj (hn8.symm.trans hnamed)
  cases hmethM.symm.trans hmethM'
  obtain ⟨c2, r2, m2, q1, q2, q3, q4, kP, hkP, hkPi⟩ := Cond.selects_spec hsel
  cases hcls.symm.trans q1
  cases (State.methodFound?_of_named hnamed hy).symm.trans q2
  cases hnamed.symm.trans q3
  have hselP : selectMethod e.platform s.vm cellB.cls mk = .method mk := by rw [Launch.admits_selectMethod X.admits]; exact q4
  obtain ⟨vm₁, X₁, hstep₁⟩ := X.invokevirtual hexec hown hlink hnamed hmethM hstM hkP hkPi hy (a := b) (cell := cellB) hcell
    (fun z h => by rw [h] at hobj; cases hobj) hselP hmethM habM hkP hkPi (g := g) hg (argsL := argsL) (rest := rest) (hlen _ hsigM) hstack hdg
  obtain ⟨v, B, X', hpost, hsteps⟩ := hK m meth c ⟨T.setVm vm₁, locs, cells, slots⟩ { g with stack := rest } (.invokevirtual index) mk (Value.ref b :: argsL).toArray X₁ hg hsize hdg hW (X₁.named hnamed) (hpre vm₁ X₁.warmed)
  exact ⟨v, vm₁, B, X₁.warmed, X', hpost, fun target h => hstep₁ _ fun acts => by rw [doInvoke_state]; exact hsteps.trans h⟩
abbrev vx_CVW (R : Room) (s : State) (args : Array Value) (own C : String) (index : Nat) (y : MethodName) (bytes : ByteArray) (maxL : Nat) (ret : Option FieldType) (hh : List (Nat × Nat × Nat × Nat)) (ws : List Cond) (rm : Room) (mc ms n : Nat) : Prop :=
  (rm.cells = mc ∧ rm.slots = ms ∧ rm.frames + 1 ≤ R.frames ∧ 8 + (maxL + 11) + rm.locals ≤ R.locals ∧ (∀ w ∈ ws, ∀ (a' : Array Value) (U : State), s.WarmedH U.vm → w.before a' U = true) ∧ Cond.codeWith y bytes maxL ret hh ∈ ws) ∧
  (Cond.codeWith y bytes maxL ret hh).before args s = true ∧ (Cond.initialized y.cls).before args s = true ∧ (y.cls ≠ "java/lang/invoke/MethodHandle" ∧ y.cls ≠ "java/lang/invoke/VarHandle") ∧
  (∀ sig, parseMethodDescriptor y.desc = some sig → n = sig.parameters.length) ∧ (Cond.methodLink own index y).before args s = true ∧ (Cond.instanceMethod y).before args s = true ∧ (Cond.selects C y y).before args s = true
theorem vx_cwVW {own C : String} {index maxL mc ms : Nat} {y : MethodName} {bytes : ByteArray} {ret : Option FieldType} {hh : List (Nat × Nat × Nat × Nat)} {Ts ws ws' : List Cond} {rm : Room} (n : Nat) (ht : ∀ w ∈ Ts, w.before args s = true) (hT : GoodIn Ts (wsV own index C y ws)) (hw : ws = Cond.codeWith y bytes maxL ret hh :: ws') (hrc : rm.cells = mc) (hrs : rm.slots = ms)
    (hd : y.cls = C ∧ y.cls ≠ "java/lang/invoke/MethodHandle" ∧ y.cls ≠ "java/lang/invoke/VarHandle" ∧ (parseMethodDescriptor y.desc).map (fun d => d.parameters.length) = some n) (hR : rm.frames + 1 ≤ R.frames ∧ 8 + (maxL + 11) + rm.locals ≤ R.locals) :
    vx_CVW R s args own C index y bytes maxL ret hh ws rm mc ms n := by
  obtain ⟨hC, hd⟩ := hd
  subst hC
  have ok : ∀ w ∈ wsV own index y.cls y ws, w.before args s = true := fun w h => ht w (hT w h).1
  have hG : GoodIn Ts ws := fun w h => hT w (by unfold wsV; exact List.mem_append_right _ h)
  have hc : Cond.codeWith y bytes maxL ret hh ∈ ws := by rw [hw]; exact List.mem_cons_self
  refine ⟨⟨hrc, hrs, hR.1, hR.2, pay_in ht hG, hc⟩, ht _ (hG _ hc).1, ok _ (by simp [wsV]), ⟨hd.1, hd.2.1⟩, fun sig h => ?_, ok _ (by simp [wsV]), ok _ (by simp [wsV]), ok _ (by simp [wsV])⟩
  have h2 := hd.2.2
  rw [h] at h2
  exact (Option.some.inj h2).symm
theorem vx_runVW {y : MethodName} {bytes cc : ByteArray} {maxL nL mc ms n index : Nat} {ret : Option FieldType} {hh : List (Nat × Nat × Nat × Nat)} {ws : List Cond} {rm : Room} {Pc : Array Value → State → Prop} {Qc : Array Value → State → Outcome → State → Prop} {free : Addr → Prop} {Ts : List Cond} {own C : String} {b : Addr} {As rest : List Value} {g : JFrame}
    (S : CallFix p m c cc nL s args Ts own) (hM : Met l y ws rm Pc Qc mc ms free) (cw : vx_CVW R s args own C index y bytes maxL ret hh ws rm mc ms n) (hp : PreV s H C b Pc As)
    (hg : g.method = m) (hn : As.length = n) (hsize : g.locals.size = nL) (hstack : g.stack = As.reverse ++ .ref b :: rest) (hW : 2 * g.monitorRoom + (rest.map fun v => v.category).sum ≤ 8) (hdg : decode cc g.pc = .ok (.invokevirtual index, 3)) (hf : cells + mc ≤ R.cells ∧ slots + ms ≤ R.slots) :
    va_Run p l e R s m args below meth c H locs cells slots mc ms g rest (Qc (Value.ref b :: As).toArray) free := by
  obtain ⟨⟨hrc, hrs, hfr, hlo, hws, hcw⟩, hcode, hini, hy, hlen, hl, hin, hse⟩ := cw
  have hK : Back l R p e below s args y 3 8 (PreOf R mc ms Pc) (PostOf Qc mc ms free) := va_backW (hh := hh) (bytes := bytes) (maxL := maxL) (ret := ret) hM hp.1 hrc hrs hfr hlo hws hcw (fun a' U hW => word_at hW (Or.inl (by first | rfl | simp [Cond.onTables, Cond.keeps, Cond.steady])) hini)
  obtain ⟨hx, hb, hml, ho, -⟩ := S
  obtain ⟨-, ⟨cellB, hcB, hoB, hclB⟩, hPc⟩ := hp
  intro T hT X
  obtain ⟨v, vm₁, ⟨U', l2, c2, s2⟩, hW₁, X', ⟨g', mk, t, L, e1, e2, hq, h1, hL, h2, h3⟩, st⟩ := vx_callVW X hx (C := C) (hh := hh) (bytes := bytes) (maxL := maxL) (ret := ret) ho hl hin hse hcode hy hK (by rw [hT]; exact hcB) hoB hclB hg (hsize.trans hml.symm) (argsL := As) (rest := rest) (fun sig h => hn.trans (hlen sig h)) hstack hW (by rw [hb]; exact hdg)
    (fun vm₁ hW₁ => ⟨hf.1, hf.2, hPc (T.setVm vm₁) hT hW₁⟩)
  dsimp only [Pt.U, Pt.locs, Pt.cells, Pt.slots] at X' e1 e2 h1 h2 h3 st
  subst h1; subst h2; subst h3
  exact ⟨v, (T.setVm vm₁).calling g' mk (Value.ref b :: As).toArray, t, U', L, hT, X', hL, e1, e2, hq, st⟩
section
variable {y : MethodName} {bytes cc : ByteArray} {maxL nL mc ms n index : Nat} {ret : Option FieldType} {ws : List Cond} {rm : Room} {Pc : Array Value → State → Prop} {Qc : Array Value → State → Outcome → State → Prop} {XC : String → State → State → Prop} {free : Addr → Prop} {Ts : List Cond} {own C : String} {b : Addr} {As rest : List Value} {g : JFrame}
theorem vx_runVX {hh : List (Nat × Nat × Nat × Nat)} (S : CallFix p m c cc nL s args Ts own) (hM : vx_Met l y ws rm Pc Qc XC mc ms free) (cw : vx_CVW R s args own C index y bytes maxL ret hh ws rm mc ms n) (hp : PreV s H C b Pc As)
    (hg : g.method = m) (hn : As.length = n) (hsize : g.locals.size = nL) (hstack : g.stack = As.reverse ++ .ref b :: rest) (hW : 2 * g.monitorRoom + (rest.map fun v => v.category).sum ≤ 8) (hdg : decode cc g.pc = .ok (.invokevirtual index, 3)) (hf : cells + mc ≤ R.cells ∧ slots + ms ≤ R.slots) :
    vx_Run p l e R s m args below meth c H locs cells slots mc ms g rest (Qc (Value.ref b :: As).toArray) XC free := by
  obtain ⟨⟨hrc, hrs, hfr, hlo, hws, hcw⟩, hcode, hini, hy, hlen, hl, hin, hse⟩ := cw
  have hK : vx_Back l R p e below s args y 3 8 (PreOf R mc ms Pc) (PostOf Qc mc ms free) (vx_Post XC mc ms free) := vx_backW (hh := hh) (bytes := bytes) (maxL := maxL) (ret := ret) hM hp.1 hrc hrs hfr hlo hws hcw (fun a' U hW => word_at hW (Or.inl (by first | rfl | simp [Cond.onTables, Cond.keeps, Cond.steady])) hini)
  obtain ⟨hx, hb, hml, ho, -⟩ := S
  obtain ⟨-, ⟨cellB, hcB, hoB, hclB⟩, hPc⟩ := hp
  intro T hT X
  rcases vx_callVX X hx (C := C) (hh := hh) (bytes := bytes) (maxL := maxL) (ret := ret) ho hl hin hse hcode hy hK (by rw [hT]; exact hcB) hoB hclB hg (hsize.trans hml.symm) (argsL := As) (rest := rest) (fun sig h => hn.trans (hlen sig h)) hstack hW (by rw [hb]; exact hdg)
    (fun vm₁ hW₁ => ⟨hf.1, hf.2, hPc (T.setVm vm₁) hT hW₁⟩) with ⟨v, vm₁, ⟨U', l2, c2, s2⟩, hW₁, X', ⟨g', mk, t, L, e1, e2, hq, h1, hL, h2, h3⟩, st⟩ | ⟨q, vm₁, ⟨U', l2, c2, s2⟩, hW₁, X', ⟨g', mk, t, L, E, ce, e1, e2, hq, hce, hcv, hcl, h1, hL, h2, h3⟩, st⟩
  · dsimp only [Pt.U, Pt.locs, Pt.cells, Pt.slots] at X' e1 e2 h1 h2 h3 st
    subst h1; subst h2; subst h3
    exact Or.inl ⟨v, (T.setVm vm₁).calling g' mk (Value.ref b :: As).toArray, t, U', L, hT, X', hL, e1, e2, hq, st⟩
  · dsimp only [Pt.U, Pt.locs, Pt.cells, Pt.slots] at X' e1 e2 h1 h2 h3 st hcl
    subst h1; subst h2; subst h3
    exact Or.inr ⟨q, (T.setVm vm₁).calling g' mk (Value.ref b :: As).toArray, t, U', L, E, ce, hT, X', hL, e1, e2, hq, hce, hcv, vx_cls hW₁ hcl, st⟩
theorem vx_runSX {hh : List (Nat × Nat × Nat × Nat)} (S : CallFix p m c cc nL s args Ts own) (hM : vx_Met l y ws rm Pc Qc XC mc ms free) (cw : vx_CSW R s args own index y bytes maxL ret hh ws rm mc ms n) (hp : PreS s H Pc As)
    (hg : g.method = m) (hn : As.length = n) (hsize : g.locals.size = nL) (hstack : g.stack = As.reverse ++ rest) (hW : 2 * g.monitorRoom + (rest.map fun v => v.category).sum ≤ 8) (hdg : decode cc g.pc = .ok (.invokestatic index, 3)) (hf : cells + mc ≤ R.cells ∧ slots + ms ≤ R.slots) :
    vx_Run p l e R s m args below meth c H locs cells slots mc ms g rest (Qc As.toArray) XC free := by
  obtain ⟨⟨hrc, hrs, hfr, hlo, hws, hcw⟩, hcode, hini, hy, hlen, hl, hstt⟩ := cw
  have hK : vx_Back l R p e below s args y 3 8 (PreOf R mc ms Pc) (PostOf Qc mc ms free) (vx_Post XC mc ms free) := vx_backW (hh := hh) (bytes := bytes) (maxL := maxL) (ret := ret) hM hp.1 hrc hrs hfr hlo hws hcw (fun a' U hW => word_at hW (Or.inl (by first | rfl | simp [Cond.onTables, Cond.keeps, Cond.steady])) hini)
  obtain ⟨hx, hb, hml, ho, -⟩ := S
  intro T hT X
  rcases vx_callSX X hx (hh := hh) (bytes := bytes) (maxL := maxL) (ret := ret) ho hl hstt hini hcode hy hK hg (hsize.trans hml.symm) (argsL := As) (rest := rest) (fun sig h => hn.trans (hlen sig h)) hstack hW (by rw [hb]; exact hdg)
    (fun vm₁ hW₁ => ⟨hf.1, hf.2, hp.2 (T.setVm vm₁) hT hW₁⟩) with ⟨v, vm₁, ⟨U', l2, c2, s2⟩, hW₁, X', ⟨g', mk, t, L, e1, e2, hq, h1, hL, h2, h3⟩, st⟩ | ⟨q, vm₁, ⟨U', l2, c2, s2⟩, hW₁, X', ⟨g', mk, t, L, E, ce, e1, e2, hq, hce, hcv, hcl, h1, hL, h2, h3⟩, st⟩
  · dsimp only [Pt.U, Pt.locs, Pt.cells, Pt.slots] at X' e1 e2 h1 h2 h3 st
    subst h1; subst h2; subst h3
    exact Or.inl ⟨v, (T.setVm vm₁).calling g' mk As.toArray, t, U', L, hT, X', hL, e1, e2, hq, st⟩
  · dsimp only [Pt.U, Pt.locs, Pt.cells, Pt.slots] at X' e1 e2 h1 h2 h3 st hcl
    subst h1; subst h2; subst h3
    exact Or.inr ⟨q, (T.setVm vm₁).calling g' mk As.toArray, t, U', L, E, ce, hT, X', hL, e1, e2, hq, hce, hcv, vx_cls hW₁ hcl, st⟩
end
end VXH
theorem vx_ofWH {l : Launch} {y : MethodName} {ws ws' : List Cond} {rm : Room} {Pc : Array Value → State → Prop} {Qc : Array Value → State → Outcome → State → Prop} {XC : String → State → State → Prop} {mc ms : Nat} {free : Addr → Prop} {cc : ByteArray} {maxL : Nat} {ret : Option FieldType} {hh : List (Nat × Nat × Nat × Nat)}
    (hy : plainName y.cls = true) (hw : ws = Cond.codeWith y cc maxL ret hh :: ws')
    (body : ∀ p e s m args below meth c s₁, BodyLoose p l y (headSpec ws rm) cc maxL ret e s m args below meth c s₁ → c.maxLocals = maxL → Pc args s →
      W p l e (headSpec ws rm).room s m args below meth c s.heap [] 0 0 (vx_MQ below Qc XC args s mc ms free) (entryFrame m args maxL)) : vx_Met l y ws rm Pc Qc XC mc ms free := by
  refine MetFree.of_bodyS (code := cc) (maxLocals := maxL) (ret := ret) hy ?_ ?_
  · intro args s m h hn
    obtain ⟨m9, meth, c, hn9, h1, h2, h3, h4, -, h5, h6, -⟩ := Cond.codeWith_spec (atoms_spec (ws := ws) h _ (by rw [hw]; exact List.mem_cons_self))
    cases hn.symm.trans hn9
    exact ⟨meth, c, h1, h2, h3, h4, h5, h6⟩
  · intro p e s m args below meth c s₁ B hml hP _
    have hh0 : s₁.heap = s.heap := by rw [B.state]; rfl
    obtain ⟨t, a1, o, b1, b2, b3⟩ := body p e s m args below meth c s₁ B hml hP s₁ hh0 (Stand.of_body B)
    exact ⟨t, o, a1, b1, b2, b3⟩
/-! ===== END ===== -/
end
section
/-! ===== BEGIN printed: names, fields, word lists, decode rows ===== -/
def RX0 : String := "StateTypes$Checking"
def TX0 : u_T := fun k => match k with
  | 0 => ("StateTypes$Checking", "program", "LStateTypes$Program;", true)
  | 1 => ("StateTypes$Checking", "protocols", "LStateTypes$Protocols;", true)
  | 2 => ("StateTypes$Checking", "before", "[I", true)
  | 3 => ("StateTypes$Checking", "afterThen", "[I", true)
  | _ => ("StateTypes$Checking", "place", "I", false)
def tyX0 : Nat → FieldType := fun k => match k with
  | 0 => .object "StateTypes$Program"
  | 1 => .object "StateTypes$Protocols"
  | 2 => .array .int
  | 3 => .array .int
  | _ => .int
abbrev wsX00 : List Cond := u_ws RX0 TX0 5
theorem nmX0 : ∀ a, a < 5 → ∀ b, b < 5 → a ≠ b → (TX0 a).2.1 ≠ (TX0 b).2.1 := by decide +kernel
theorem tyX0_ok : ∀ k, k < 5 → parseFieldDescriptor (TX0 k).2.2.1 = some (tyX0 k) := by decide +kernel
abbrev cX0_init : ByteArray := prog_2_method_1_code
def yX0_init : MethodName := ⟨RX0, "<init>", "(LStateTypes$Program;LStateTypes$Protocols;)V"⟩
abbrev cX0_heldBefore : ByteArray := prog_2_method_2_code
def yX0_heldBefore : MethodName := ⟨RX0, "heldBefore", "(I)I"⟩
abbrev cX0_checkProgram : ByteArray := prog_2_method_3_code
def yX0_checkProgram : MethodName := ⟨RX0, "checkProgram", "()I"⟩
abbrev cX0_afterEntry : ByteArray := prog_2_method_4_code
def yX0_afterEntry : MethodName := ⟨RX0, "afterEntry", "(II)I"⟩
def RX1 : String := "StateTypes$Program"
def TX1 : u_T := fun k => match k with
  | 0 => ("StateTypes$Program", "kinds", "[I", true)
  | 1 => ("StateTypes$Program", "numbers", "[I", true)
  | 2 => ("StateTypes$Program", "firsts", "[I", true)
  | 3 => ("StateTypes$Program", "seconds", "[I", true)
  | 4 => ("StateTypes$Program", "jumps", "[I", true)
  | 5 => ("StateTypes$Program", "open", "[I", true)
  | 6 => ("StateTypes$Program", "entries", "I", false)
  | 7 => ("StateTypes$Program", "statements", "I", false)
  | _ => ("StateTypes$Program", "openBlocks", "I", false)
def tyX1 : Nat → FieldType := fun k => match k with
  | 0 => .array .int
  | 1 => .array .int
  | 2 => .array .int
  | 3 => .array .int
  | 4 => .array .int
  | 5 => .array .int
  | 6 => .int
  | 7 => .int
  | _ => .int
abbrev wsX10 : List Cond := u_ws RX1 TX1 9
theorem nmX1 : ∀ a, a < 9 → ∀ b, b < 9 → a ≠ b → (TX1 a).2.1 ≠ (TX1 b).2.1 := by decide +kernel
theorem tyX1_ok : ∀ k, k < 9 → parseFieldDescriptor (TX1 k).2.2.1 = some (tyX1 k) := by decide +kernel
abbrev cX1_init : ByteArray := prog_3_method_1_code
def yX1_init : MethodName := ⟨RX1, "<init>", "()V"⟩
abbrev cX1_removeAll : ByteArray := prog_3_method_2_code
def yX1_removeAll : MethodName := ⟨RX1, "removeAll", "()V"⟩
abbrev cX1_hasOpenBlocks : ByteArray := prog_3_method_3_code
def yX1_hasOpenBlocks : MethodName := ⟨RX1, "hasOpenBlocks", "()Z"⟩
abbrev cX1_hasEntry : ByteArray := prog_3_method_4_code
def yX1_hasEntry : MethodName := ⟨RX1, "hasEntry", "(I)Z"⟩
abbrev cX1_addSimple : ByteArray := prog_3_method_5_code
def yX1_addSimple : MethodName := ⟨RX1, "addSimple", "(III)I"⟩
abbrev cX1_addOpening : ByteArray := prog_3_method_6_code
def yX1_addOpening : MethodName := ⟨RX1, "addOpening", "(I)I"⟩
abbrev cX1_beginElse : ByteArray := prog_3_method_7_code
def yX1_beginElse : MethodName := ⟨RX1, "beginElse", "()Z"⟩
abbrev cX1_endBlock : ByteArray := prog_3_method_8_code
def yX1_endBlock : MethodName := ⟨RX1, "endBlock", "()Z"⟩
abbrev cX1_lastOpened : ByteArray := prog_3_method_9_code
def yX1_lastOpened : MethodName := ⟨RX1, "lastOpened", "()I"⟩
abbrev cX1_addEntry : ByteArray := prog_3_method_10_code
def yX1_addEntry : MethodName := ⟨RX1, "addEntry", "(IIII)V"⟩
abbrev cX1_afterSimple : ByteArray := prog_3_method_11_code
def yX1_afterSimple : MethodName := ⟨RX1, "afterSimple", "(IILStateTypes$Protocols;)I"⟩
def RX2 : String := "StateTypes$Protocols"
def TX2 : u_T := fun k => match k with
  | 0 => ("StateTypes$Protocols", "targets", "[I", true)
  | _ => ("StateTypes$Protocols", "finals", "[Z", true)
def tyX2 : Nat → FieldType := fun k => match k with
  | 0 => .array .int
  | _ => .array .boolean
abbrev wsX20 : List Cond := u_ws RX2 TX2 2
theorem nmX2 : ∀ a, a < 2 → ∀ b, b < 2 → a ≠ b → (TX2 a).2.1 ≠ (TX2 b).2.1 := by decide +kernel
theorem tyX2_ok : ∀ k, k < 2 → parseFieldDescriptor (TX2 k).2.2.1 = some (tyX2 k) := by decide +kernel
abbrev cX2_init : ByteArray := prog_4_method_1_code
def yX2_init : MethodName := ⟨RX2, "<init>", "()V"⟩
abbrev cX2_setTarget : ByteArray := prog_4_method_2_code
def yX2_setTarget : MethodName := ⟨RX2, "setTarget", "(III)Z"⟩
abbrev cX2_setFinal : ByteArray := prog_4_method_3_code
def yX2_setFinal : MethodName := ⟨RX2, "setFinal", "(IZ)Z"⟩
abbrev cX2_targetOf : ByteArray := prog_4_method_4_code
def yX2_targetOf : MethodName := ⟨RX2, "targetOf", "(II)I"⟩
abbrev cX2_mayBeLeft : ByteArray := prog_4_method_5_code
def yX2_mayBeLeft : MethodName := ⟨RX2, "mayBeLeft", "(I)Z"⟩
abbrev cX2_faultOfLeaving : ByteArray := prog_4_method_6_code
def yX2_faultOfLeaving : MethodName := ⟨RX2, "faultOfLeaving", "(I)I"⟩
def RX3 : String := "StateTypes$Running"
def TX3 : u_T := fun k => match k with
  | 0 => ("StateTypes$Running", "program", "LStateTypes$Program;", true)
  | 1 => ("StateTypes$Running", "protocols", "LStateTypes$Protocols;", true)
  | 2 => ("StateTypes$Running", "fault", "I", false)
  | 3 => ("StateTypes$Running", "place", "I", false)
  | 4 => ("StateTypes$Running", "stepsDone", "I", false)
  | 5 => ("StateTypes$Running", "all", "I", false)
  | 6 => ("StateTypes$Running", "bits", "I", false)
  | _ => ("StateTypes$Running", "bitsLeft", "I", false)
def tyX3 : Nat → FieldType := fun k => match k with
  | 0 => .object "StateTypes$Program"
  | 1 => .object "StateTypes$Protocols"
  | 2 => .int
  | 3 => .int
  | 4 => .int
  | 5 => .int
  | 6 => .int
  | _ => .int
abbrev wsX30 : List Cond := u_ws RX3 TX3 8
theorem nmX3 : ∀ a, a < 8 → ∀ b, b < 8 → a ≠ b → (TX3 a).2.1 ≠ (TX3 b).2.1 := by decide +kernel
theorem tyX3_ok : ∀ k, k < 8 → parseFieldDescriptor (TX3 k).2.2.1 = some (tyX3 k) := by decide +kernel
abbrev cX3_init : ByteArray := prog_5_method_1_code
def yX3_init : MethodName := ⟨RX3, "<init>", "(LStateTypes$Program;LStateTypes$Protocols;)V"⟩
abbrev cX3_runProgram : ByteArray := prog_5_method_2_code
def yX3_runProgram : MethodName := ⟨RX3, "runProgram", "(II)V"⟩
abbrev cX3_doEntry : ByteArray := prog_5_method_3_code
def yX3_doEntry : MethodName := ⟨RX3, "doEntry", "(I)I"⟩
abbrev cX3_doSimple : ByteArray := prog_5_method_4_code
def yX3_doSimple : MethodName := ⟨RX3, "doSimple", "(I)V"⟩
abbrev cX3_takeBit : ByteArray := prog_5_method_5_code
def yX3_takeBit : MethodName := ⟨RX3, "takeBit", "()Z"⟩
def RX4 : String := "StateTypes"
def TX4 : u_T := fun k => match k with
  | 0 => ("StateTypes", "protocols", "LStateTypes$Protocols;", true)
  | 1 => ("StateTypes", "program", "LStateTypes$Program;", true)
  | 2 => ("StateTypes", "checking", "LStateTypes$Checking;", true)
  | _ => ("StateTypes", "running", "LStateTypes$Running;", true)
def tyX4 : Nat → FieldType := fun k => match k with
  | 0 => .object "StateTypes$Protocols"
  | 1 => .object "StateTypes$Program"
  | 2 => .object "StateTypes$Checking"
  | _ => .object "StateTypes$Running"
abbrev wsX40 : List Cond := u_ws RX4 TX4 4
theorem nmX4 : ∀ a, a < 4 → ∀ b, b < 4 → a ≠ b → (TX4 a).2.1 ≠ (TX4 b).2.1 := by decide +kernel
theorem tyX4_ok : ∀ k, k < 4 → parseFieldDescriptor (TX4 k).2.2.1 = some (tyX4 k) := by decide +kernel
abbrev cX4_init : ByteArray := prog_1_method_1_code
def yX4_init : MethodName := ⟨RX4, "<init>", "()V"⟩
abbrev cX4_lead : ByteArray := prog_1_method_2_code
def yX4_lead : MethodName := ⟨RX4, "lead", "(IIII)Z"⟩
abbrev cX4_mark : ByteArray := prog_1_method_3_code
def yX4_mark : MethodName := ⟨RX4, "mark", "(IIZ)Z"⟩
abbrev cX4_make : ByteArray := prog_1_method_4_code
def yX4_make : MethodName := ⟨RX4, "make", "(II)I"⟩
abbrev cX4_call : ByteArray := prog_1_method_5_code
def yX4_call : MethodName := ⟨RX4, "call", "(II)I"⟩
abbrev cX4_move : ByteArray := prog_1_method_6_code
def yX4_move : MethodName := ⟨RX4, "move", "(II)I"⟩
abbrev cX4_drop : ByteArray := prog_1_method_7_code
def yX4_drop : MethodName := ⟨RX4, "drop", "(I)I"⟩
abbrev cX4_choose : ByteArray := prog_1_method_8_code
def yX4_choose : MethodName := ⟨RX4, "choose", "()I"⟩
abbrev cX4_otherwise : ByteArray := prog_1_method_9_code
def yX4_otherwise : MethodName := ⟨RX4, "otherwise", "()Z"⟩
abbrev cX4_repeat : ByteArray := prog_1_method_10_code
def yX4_repeat : MethodName := ⟨RX4, "repeat", "()I"⟩
abbrev cX4_end : ByteArray := prog_1_method_11_code
def yX4_end : MethodName := ⟨RX4, "end", "()Z"⟩
abbrev cX4_clear : ByteArray := prog_1_method_12_code
def yX4_clear : MethodName := ⟨RX4, "clear", "()V"⟩
abbrev cX4_size : ByteArray := prog_1_method_13_code
def yX4_size : MethodName := ⟨RX4, "size", "()I"⟩
abbrev cX4_check : ByteArray := prog_1_method_14_code
def yX4_check : MethodName := ⟨RX4, "check", "()I"⟩
abbrev cX4_faultAt : ByteArray := prog_1_method_15_code
def yX4_faultAt : MethodName := ⟨RX4, "faultAt", "()I"⟩
abbrev cX4_held : ByteArray := prog_1_method_16_code
def yX4_held : MethodName := ⟨RX4, "held", "(II)I"⟩
abbrev cX4_run : ByteArray := prog_1_method_17_code
def yX4_run : MethodName := ⟨RX4, "run", "(II)I"⟩
abbrev cX4_runFault : ByteArray := prog_1_method_18_code
def yX4_runFault : MethodName := ⟨RX4, "runFault", "()I"⟩
abbrev cX4_runAt : ByteArray := prog_1_method_19_code
def yX4_runAt : MethodName := ⟨RX4, "runAt", "()I"⟩
abbrev cX4_steps : ByteArray := prog_1_method_20_code
def yX4_steps : MethodName := ⟨RX4, "steps", "()I"⟩
abbrev cX4_left : ByteArray := prog_1_method_21_code
def yX4_left : MethodName := ⟨RX4, "left", "(I)I"⟩
abbrev cX4_isBelow : ByteArray := prog_1_method_22_code
def yX4_isBelow : MethodName := ⟨RX4, "isBelow", "(II)Z"⟩
abbrev cX4_isVariable : ByteArray := prog_1_method_23_code
def yX4_isVariable : MethodName := ⟨RX4, "isVariable", "(I)Z"⟩
abbrev cX4_isState : ByteArray := prog_1_method_24_code
def yX4_isState : MethodName := ⟨RX4, "isState", "(II)Z"⟩
abbrev cX4_heldBy : ByteArray := prog_1_method_25_code
def yX4_heldBy : MethodName := ⟨RX4, "heldBy", "(II)I"⟩
abbrev cX4_withHeld : ByteArray := prog_1_method_26_code
def yX4_withHeld : MethodName := ⟨RX4, "withHeld", "(III)I"⟩
abbrev cX4_objectOf : ByteArray := prog_1_method_27_code
def yX4_objectOf : MethodName := ⟨RX4, "objectOf", "(II)I"⟩
abbrev cX4_protocolOf : ByteArray := prog_1_method_28_code
def yX4_protocolOf : MethodName := ⟨RX4, "protocolOf", "(I)I"⟩
def RX5 : String := "StateTypesModel"
def TX5 : u_T := fun k => match k with
  | 0 => ("StateTypesModel", "leads", "[I", true)
  | 1 => ("StateTypesModel", "last", "[Z", true)
  | 2 => ("StateTypesModel", "kind", "[I", true)
  | 3 => ("StateTypesModel", "first", "[I", true)
  | 4 => ("StateTypesModel", "second", "[I", true)
  | 5 => ("StateTypesModel", "middle", "[I", true)
  | 6 => ("StateTypesModel", "behind", "[I", true)
  | 7 => ("StateTypesModel", "size", "I", false)
  | 8 => ("StateTypesModel", "open", "[I", true)
  | 9 => ("StateTypesModel", "inElse", "[Z", true)
  | 10 => ("StateTypesModel", "opened", "I", false)
  | 11 => ("StateTypesModel", "place", "I", false)
  | 12 => ("StateTypesModel", "runFault", "I", false)
  | 13 => ("StateTypesModel", "runPlace", "I", false)
  | 14 => ("StateTypesModel", "steps", "I", false)
  | 15 => ("StateTypesModel", "thrown", "I", false)
  | 16 => ("StateTypesModel", "checked", "Z", false)
  | 17 => ("StateTypesModel", "now", "[I", true)
  | 18 => ("StateTypesModel", "left", "[I", true)
  | 19 => ("StateTypesModel", "held", "[I", true)
  | 20 => ("StateTypesModel", "pile", "[I", true)
  | 21 => ("StateTypesModel", "other", "[Z", true)
  | 22 => ("StateTypesModel", "before", "[I", true)
  | 23 => ("StateTypesModel", "after", "[I", true)
  | _ => ("StateTypesModel", "piled", "I", false)
def tyX5 : Nat → FieldType := fun k => match k with
  | 0 => .array .int
  | 1 => .array .boolean
  | 2 => .array .int
  | 3 => .array .int
  | 4 => .array .int
  | 5 => .array .int
  | 6 => .array .int
  | 7 => .int
  | 8 => .array .int
  | 9 => .array .boolean
  | 10 => .int
  | 11 => .int
  | 12 => .int
  | 13 => .int
  | 14 => .int
  | 15 => .int
  | 16 => .boolean
  | 17 => .array .int
  | 18 => .array .int
  | 19 => .array .int
  | 20 => .array .int
  | 21 => .array .boolean
  | 22 => .array .int
  | 23 => .array .int
  | _ => .int
abbrev wsX50 : List Cond := u_ws RX5 TX5 25
theorem nmX5 : ∀ a, a < 25 → ∀ b, b < 25 → a ≠ b → (TX5 a).2.1 ≠ (TX5 b).2.1 := by decide +kernel
theorem tyX5_ok : ∀ k, k < 25 → parseFieldDescriptor (TX5 k).2.2.1 = some (tyX5 k) := by decide +kernel
abbrev cX5_init : ByteArray := prog_7_method_1_code
def yX5_init : MethodName := ⟨RX5, "<init>", "()V"⟩
abbrev cX5_thrown : ByteArray := prog_7_method_2_code
def yX5_thrown : MethodName := ⟨RX5, "thrown", "()I"⟩
abbrev cX5_within : ByteArray := prog_7_method_3_code
def yX5_within : MethodName := ⟨RX5, "within", "(II)Z"⟩
abbrev cX5_lead : ByteArray := prog_7_method_4_code
def yX5_lead : MethodName := ⟨RX5, "lead", "(IIII)Z"⟩
abbrev cX5_mark : ByteArray := prog_7_method_5_code
def yX5_mark : MethodName := ⟨RX5, "mark", "(IIZ)Z"⟩
abbrev cX5_add : ByteArray := prog_7_method_6_code
def yX5_add : MethodName := ⟨RX5, "add", "(III)I"⟩
abbrev cX5_make : ByteArray := prog_7_method_7_code
def yX5_make : MethodName := ⟨RX5, "make", "(II)I"⟩
abbrev cX5_call : ByteArray := prog_7_method_8_code
def yX5_call : MethodName := ⟨RX5, "call", "(II)I"⟩
abbrev cX5_move : ByteArray := prog_7_method_9_code
def yX5_move : MethodName := ⟨RX5, "move", "(II)I"⟩
abbrev cX5_drop : ByteArray := prog_7_method_10_code
def yX5_drop : MethodName := ⟨RX5, "drop", "(I)I"⟩
abbrev cX5_begin : ByteArray := prog_7_method_11_code
def yX5_begin : MethodName := ⟨RX5, "begin", "(I)I"⟩
abbrev cX5_choose : ByteArray := prog_7_method_12_code
def yX5_choose : MethodName := ⟨RX5, "choose", "()I"⟩
abbrev cX5_repeat : ByteArray := prog_7_method_13_code
def yX5_repeat : MethodName := ⟨RX5, "repeat", "()I"⟩
abbrev cX5_otherwise : ByteArray := prog_7_method_14_code
def yX5_otherwise : MethodName := ⟨RX5, "otherwise", "()Z"⟩
abbrev cX5_end : ByteArray := prog_7_method_15_code
def yX5_end : MethodName := ⟨RX5, "end", "()Z"⟩
abbrev cX5_clear : ByteArray := prog_7_method_16_code
def yX5_clear : MethodName := ⟨RX5, "clear", "()V"⟩
abbrev cX5_size : ByteArray := prog_7_method_17_code
def yX5_size : MethodName := ⟨RX5, "size", "()I"⟩
abbrev cX5_work : ByteArray := prog_7_method_18_code
def yX5_work : MethodName := ⟨RX5, "work", "(I)I"⟩
abbrev cX5_unfinished : ByteArray := prog_7_method_19_code
def yX5_unfinished : MethodName := ⟨RX5, "unfinished", "()Z"⟩
abbrev cX5_nothing : ByteArray := prog_7_method_20_code
def yX5_nothing : MethodName := ⟨RX5, "nothing", "()V"⟩
abbrev cX5_same : ByteArray := prog_7_method_21_code
def yX5_same : MethodName := ⟨RX5, "same", "([II)Z"⟩
abbrev cX5_blockEnd : ByteArray := prog_7_method_22_code
def yX5_blockEnd : MethodName := ⟨RX5, "blockEnd", "()I"⟩
abbrev cX5_ended : ByteArray := prog_7_method_23_code
def yX5_ended : MethodName := ⟨RX5, "ended", "()I"⟩
abbrev cX5_check : ByteArray := prog_7_method_24_code
def yX5_check : MethodName := ⟨RX5, "check", "()I"⟩
abbrev cX5_faultAt : ByteArray := prog_7_method_25_code
def yX5_faultAt : MethodName := ⟨RX5, "faultAt", "()I"⟩
abbrev cX5_held : ByteArray := prog_7_method_26_code
def yX5_held : MethodName := ⟨RX5, "held", "(II)I"⟩
abbrev cX5_run : ByteArray := prog_7_method_27_code
def yX5_run : MethodName := ⟨RX5, "run", "(II)I"⟩
abbrev cX5_runFault : ByteArray := prog_7_method_28_code
def yX5_runFault : MethodName := ⟨RX5, "runFault", "()I"⟩
abbrev cX5_runAt : ByteArray := prog_7_method_29_code
def yX5_runAt : MethodName := ⟨RX5, "runAt", "()I"⟩
abbrev cX5_steps : ByteArray := prog_7_method_30_code
def yX5_steps : MethodName := ⟨RX5, "steps", "()I"⟩
abbrev cX5_left : ByteArray := prog_7_method_31_code
def yX5_left : MethodName := ⟨RX5, "left", "(I)I"⟩
def RJ0 : String := "java/lang/String"
def TJ0 : u_T := fun k => match k with
  | _ => ("", "", "", false)
def tyJ0 : Nat → FieldType := fun k => match k with
  | _ => .int
abbrev wsJ00 : List Cond := u_ws RJ0 TJ0 0
theorem nmJ0 : ∀ a, a < 0 → ∀ b, b < 0 → a ≠ b → (TJ0 a).2.1 ≠ (TJ0 b).2.1 := by decide +kernel
theorem tyJ0_ok : ∀ k, k < 0 → parseFieldDescriptor (TJ0 k).2.2.1 = some (tyJ0 k) := by decide +kernel
def RJ7 : String := "java/util/Arrays"
def TJ7 : u_T := fun k => match k with
  | _ => ("", "", "", false)
def tyJ7 : Nat → FieldType := fun k => match k with
  | _ => .int
abbrev wsJ70 : List Cond := u_ws RJ7 TJ7 0
theorem nmJ7 : ∀ a, a < 0 → ∀ b, b < 0 → a ≠ b → (TJ7 a).2.1 ≠ (TJ7 b).2.1 := by decide +kernel
theorem tyJ7_ok : ∀ k, k < 0 → parseFieldDescriptor (TJ7 k).2.2.1 = some (tyJ7 k) := by decide +kernel
abbrev cJ7_fill_53178 : ByteArray := prog_14_method_103_code
def yJ7_fill_53178 : MethodName := ⟨RJ7, "fill", "([II)V"⟩
def RL : String := "StateTypesLaw"
abbrev cL_run : ByteArray := method_3_code
def yL_run : MethodName := ⟨RL, "run", "(LStateTypes;II[J)I"⟩
abbrev cL_law : ByteArray := code
def yL_law : MethodName := ⟨RL, "law", "([I)Z"⟩
def wsJ7_fill_53178 : List Cond := .code yJ7_fill_53178 cJ7_fill_53178 4 none :: ([])
def wsX0_init : List Cond := .code yX0_init cX0_init 3 none :: ([.methodLink RX0 3 objectInit, .instanceMethod objectInit, .code objectInit ⟨#[0xb1]⟩ 1 none, .fieldLink RX0 9 "StateTypes$Checking" "program" "LStateTypes$Program;", .fieldLink RX0 15 "StateTypes$Checking" "protocols" "LStateTypes$Protocols;", .arrayClass .int, .fieldLink RX0 19 "StateTypes$Checking" "before" "[I", .fieldLink RX0 23 "StateTypes$Checking" "afterThen" "[I", .fieldLink RX0 26 "StateTypes$Checking" "place" "I", .methodLink RX0 30 yJ7_fill_53178, .static yJ7_fill_53178, .initialized RJ7, .code yJ7_fill_53178 cJ7_fill_53178 4 none] ++ wsX00)
def wsX4_isBelow : List Cond := .code yX4_isBelow cX4_isBelow 2 (some .boolean) :: ([])
def wsX0_heldBefore : List Cond := .code yX0_heldBefore cX0_heldBefore 2 (some .int) :: ([.fieldLink RX0 19 "StateTypes$Checking" "before" "[I", .static yX4_isBelow, .initialized RX4, .code yX4_isBelow cX4_isBelow 2 (some .boolean)] ++ wsX00)
def wsX1_hasOpenBlocks : List Cond := .code yX1_hasOpenBlocks cX1_hasOpenBlocks 1 (some .boolean) :: ([.fieldLink RX1 37 "StateTypes$Program" "openBlocks" "I"] ++ wsX10)
def wsX1_hasEntry : List Cond := .code yX1_hasEntry cX1_hasEntry 2 (some .boolean) :: ([.fieldLink RX1 30 "StateTypes$Program" "entries" "I", .static yX4_isBelow, .initialized RX4, .code yX4_isBelow cX4_isBelow 2 (some .boolean)] ++ wsX10)
def wsX4_heldBy : List Cond := .code yX4_heldBy cX4_heldBy 2 (some .int) :: ([])
def wsX4_objectOf : List Cond := .code yX4_objectOf cX4_objectOf 2 (some .int) :: ([])
def wsX4_withHeld : List Cond := .code yX4_withHeld cX4_withHeld 4 (some .int) :: ([])
def wsX2_targetOf : List Cond := .code yX2_targetOf cX2_targetOf 3 (some .int) :: ([.fieldLink RX2 9 "StateTypes$Protocols" "targets" "[I", .static yX4_isBelow, .initialized RX4, .code yX4_isBelow cX4_isBelow 2 (some .boolean)] ++ wsX20)
def wsX4_protocolOf : List Cond := .code yX4_protocolOf cX4_protocolOf 1 (some .int) :: ([])
def wsX2_mayBeLeft : List Cond := .code yX2_mayBeLeft cX2_mayBeLeft 2 (some .boolean) :: ([.fieldLink RX2 15 "StateTypes$Protocols" "finals" "[Z", .static yX4_isBelow, .initialized RX4, .code yX4_isBelow cX4_isBelow 2 (some .boolean)] ++ wsX20)
def wsX1_afterSimple_r1 : List Cond := [Cond.fieldLink RX1 18 "StateTypes$Program" "firsts" "[I", Cond.fieldLink RX1 21 "StateTypes$Program" "seconds" "[I", Cond.fieldLink RX1 9 "StateTypes$Program" "kinds" "[I", Cond.methodLink RX1 52 yX1_hasEntry, Cond.instanceMethod yX1_hasEntry, Cond.selects RX1 yX1_hasEntry yX1_hasEntry, Cond.initialized RX1, Cond.code yX1_hasEntry cX1_hasEntry 2 (some .boolean), Cond.fieldLink RX1 30 "StateTypes$Program" "entries" "I", Cond.static yX4_isBelow, Cond.initialized RX4, Cond.code yX4_isBelow cX4_isBelow 2 (some .boolean), Cond.static yX4_heldBy, Cond.code yX4_heldBy cX4_heldBy 2 (some .int), Cond.static yX4_objectOf, Cond.code yX4_objectOf cX4_objectOf 2 (some .int), Cond.static yX4_withHeld, Cond.code yX4_withHeld cX4_withHeld 4 (some .int), Cond.methodLink RX1 71 yX2_targetOf, Cond.instanceMethod yX2_targetOf, Cond.selects RX2 yX2_targetOf yX2_targetOf, Cond.initialized RX2, Cond.code yX2_targetOf cX2_targetOf 3 (some .int), Cond.fieldLink RX2 9 "StateTypes$Protocols" "targets" "[I"]
def wsX1_afterSimple_r2 : List Cond := [Cond.static yX4_protocolOf, Cond.code yX4_protocolOf cX4_protocolOf 1 (some .int), Cond.methodLink RX1 80 yX2_mayBeLeft, Cond.instanceMethod yX2_mayBeLeft, Cond.selects RX2 yX2_mayBeLeft yX2_mayBeLeft, Cond.code yX2_mayBeLeft cX2_mayBeLeft 2 (some .boolean), Cond.fieldLink RX2 15 "StateTypes$Protocols" "finals" "[Z"]
def wsX1_afterSimple : List Cond := .code yX1_afterSimple cX1_afterSimple 8 (some .int) :: ((wsX1_afterSimple_r1 ++ wsX1_afterSimple_r2) ++ wsX10 ++ wsX20)
def wsX0_afterEntry_r1 : List Cond := [Cond.fieldLink RX0 9 "StateTypes$Checking" "program" "LStateTypes$Program;", Cond.fieldLink RX0 23 "StateTypes$Checking" "afterThen" "[I", Cond.fieldLink RX0 19 "StateTypes$Checking" "before" "[I", Cond.fieldLink RX0 15 "StateTypes$Checking" "protocols" "LStateTypes$Protocols;", Cond.methodLink RX0 65 yX1_hasEntry, Cond.instanceMethod yX1_hasEntry, Cond.selects RX1 yX1_hasEntry yX1_hasEntry, Cond.initialized RX1, Cond.code yX1_hasEntry cX1_hasEntry 2 (some .boolean), Cond.fieldLink RX1 30 "StateTypes$Program" "entries" "I", Cond.static yX4_isBelow, Cond.initialized RX4, Cond.code yX4_isBelow cX4_isBelow 2 (some .boolean), Cond.methodLink RX0 72 yX1_afterSimple, Cond.instanceMethod yX1_afterSimple, Cond.selects RX1 yX1_afterSimple yX1_afterSimple, Cond.code yX1_afterSimple cX1_afterSimple 8 (some .int), Cond.fieldLink RX1 18 "StateTypes$Program" "firsts" "[I", Cond.fieldLink RX1 21 "StateTypes$Program" "seconds" "[I", Cond.fieldLink RX1 9 "StateTypes$Program" "kinds" "[I", Cond.methodLink RX1 52 yX1_hasEntry, Cond.static yX4_heldBy, Cond.code yX4_heldBy cX4_heldBy 2 (some .int), Cond.static yX4_objectOf]
def wsX0_afterEntry_r2 : List Cond := [Cond.code yX4_objectOf cX4_objectOf 2 (some .int), Cond.static yX4_withHeld, Cond.code yX4_withHeld cX4_withHeld 4 (some .int), Cond.methodLink RX1 71 yX2_targetOf, Cond.instanceMethod yX2_targetOf, Cond.selects RX2 yX2_targetOf yX2_targetOf, Cond.initialized RX2, Cond.code yX2_targetOf cX2_targetOf 3 (some .int), Cond.fieldLink RX2 9 "StateTypes$Protocols" "targets" "[I", Cond.static yX4_protocolOf, Cond.code yX4_protocolOf cX4_protocolOf 1 (some .int), Cond.methodLink RX1 80 yX2_mayBeLeft, Cond.instanceMethod yX2_mayBeLeft, Cond.selects RX2 yX2_mayBeLeft yX2_mayBeLeft, Cond.code yX2_mayBeLeft cX2_mayBeLeft 2 (some .boolean), Cond.fieldLink RX2 15 "StateTypes$Protocols" "finals" "[Z"]
def wsX0_afterEntry : List Cond := .code yX0_afterEntry cX0_afterEntry 4 (some .int) :: ((wsX0_afterEntry_r1 ++ wsX0_afterEntry_r2) ++ wsX00 ++ wsX10 ++ wsX20)
def wsX2_faultOfLeaving : List Cond := .code yX2_faultOfLeaving cX2_faultOfLeaving 4 (some .int) :: ([.static yX4_heldBy, .initialized RX4, .code yX4_heldBy cX4_heldBy 2 (some .int), .methodLink RX2 33 yX2_mayBeLeft, .instanceMethod yX2_mayBeLeft, .selects RX2 yX2_mayBeLeft yX2_mayBeLeft, .initialized RX2, .code yX2_mayBeLeft cX2_mayBeLeft 2 (some .boolean), .fieldLink RX2 15 "StateTypes$Protocols" "finals" "[Z", .static yX4_isBelow, .code yX4_isBelow cX4_isBelow 2 (some .boolean)] ++ wsX20)
def wsX0_checkProgram_r1 : List Cond := [Cond.fieldLink RX0 19 "StateTypes$Checking" "before" "[I", Cond.fieldLink RX0 9 "StateTypes$Checking" "program" "LStateTypes$Program;", Cond.fieldLink RX0 26 "StateTypes$Checking" "place" "I", Cond.fieldLink RX0 15 "StateTypes$Checking" "protocols" "LStateTypes$Protocols;", Cond.methodLink RX0 30 yJ7_fill_53178, Cond.static yJ7_fill_53178, Cond.initialized RJ7, Cond.code yJ7_fill_53178 cJ7_fill_53178 4 none, Cond.methodLink RX0 45 yX1_hasOpenBlocks, Cond.instanceMethod yX1_hasOpenBlocks, Cond.selects RX1 yX1_hasOpenBlocks yX1_hasOpenBlocks, Cond.initialized RX1, Cond.code yX1_hasOpenBlocks cX1_hasOpenBlocks 1 (some .boolean), Cond.fieldLink RX1 37 "StateTypes$Program" "openBlocks" "I", Cond.methodLink RX0 52 yX0_afterEntry, Cond.instanceMethod yX0_afterEntry, Cond.selects RX0 yX0_afterEntry yX0_afterEntry, Cond.initialized RX0, Cond.code yX0_afterEntry cX0_afterEntry 4 (some .int), Cond.fieldLink RX0 23 "StateTypes$Checking" "afterThen" "[I", Cond.methodLink RX0 65 yX1_hasEntry, Cond.instanceMethod yX1_hasEntry, Cond.selects RX1 yX1_hasEntry yX1_hasEntry, Cond.code yX1_hasEntry cX1_hasEntry 2 (some .boolean)]
def wsX0_checkProgram_r2 : List Cond := [Cond.fieldLink RX1 30 "StateTypes$Program" "entries" "I", Cond.static yX4_isBelow, Cond.initialized RX4, Cond.code yX4_isBelow cX4_isBelow 2 (some .boolean), Cond.methodLink RX0 72 yX1_afterSimple, Cond.instanceMethod yX1_afterSimple, Cond.selects RX1 yX1_afterSimple yX1_afterSimple, Cond.code yX1_afterSimple cX1_afterSimple 8 (some .int), Cond.fieldLink RX1 18 "StateTypes$Program" "firsts" "[I", Cond.fieldLink RX1 21 "StateTypes$Program" "seconds" "[I", Cond.fieldLink RX1 9 "StateTypes$Program" "kinds" "[I", Cond.methodLink RX1 52 yX1_hasEntry, Cond.static yX4_heldBy, Cond.code yX4_heldBy cX4_heldBy 2 (some .int), Cond.static yX4_objectOf, Cond.code yX4_objectOf cX4_objectOf 2 (some .int), Cond.static yX4_withHeld, Cond.code yX4_withHeld cX4_withHeld 4 (some .int), Cond.methodLink RX1 71 yX2_targetOf, Cond.instanceMethod yX2_targetOf, Cond.selects RX2 yX2_targetOf yX2_targetOf, Cond.initialized RX2, Cond.code yX2_targetOf cX2_targetOf 3 (some .int), Cond.fieldLink RX2 9 "StateTypes$Protocols" "targets" "[I"]
def wsX0_checkProgram_r3 : List Cond := [Cond.static yX4_protocolOf, Cond.code yX4_protocolOf cX4_protocolOf 1 (some .int), Cond.methodLink RX1 80 yX2_mayBeLeft, Cond.instanceMethod yX2_mayBeLeft, Cond.selects RX2 yX2_mayBeLeft yX2_mayBeLeft, Cond.code yX2_mayBeLeft cX2_mayBeLeft 2 (some .boolean), Cond.fieldLink RX2 15 "StateTypes$Protocols" "finals" "[Z", Cond.methodLink RX0 59 yX2_faultOfLeaving, Cond.instanceMethod yX2_faultOfLeaving, Cond.selects RX2 yX2_faultOfLeaving yX2_faultOfLeaving, Cond.code yX2_faultOfLeaving cX2_faultOfLeaving 4 (some .int), Cond.methodLink RX2 33 yX2_mayBeLeft]
def wsX0_checkProgram : List Cond := .code yX0_checkProgram cX0_checkProgram 4 (some .int) :: ((wsX0_checkProgram_r1 ++ (wsX0_checkProgram_r2 ++ wsX0_checkProgram_r3)) ++ wsX00 ++ wsX10 ++ wsX20)
def wsX1_init : List Cond := .code yX1_init cX1_init 1 none :: ([.methodLink RX1 3 objectInit, .instanceMethod objectInit, .code objectInit ⟨#[0xb1]⟩ 1 none, .arrayClass .int, .fieldLink RX1 9 "StateTypes$Program" "kinds" "[I", .fieldLink RX1 15 "StateTypes$Program" "numbers" "[I", .fieldLink RX1 18 "StateTypes$Program" "firsts" "[I", .fieldLink RX1 21 "StateTypes$Program" "seconds" "[I", .fieldLink RX1 24 "StateTypes$Program" "jumps" "[I", .fieldLink RX1 27 "StateTypes$Program" "open" "[I"] ++ wsX10)
def wsX1_removeAll : List Cond := .code yX1_removeAll cX1_removeAll 1 none :: ([.fieldLink RX1 30 "StateTypes$Program" "entries" "I", .fieldLink RX1 34 "StateTypes$Program" "statements" "I", .fieldLink RX1 37 "StateTypes$Program" "openBlocks" "I"] ++ wsX10)
def wsX1_addEntry : List Cond := .code yX1_addEntry cX1_addEntry 5 none :: ([.fieldLink RX1 30 "StateTypes$Program" "entries" "I", .fieldLink RX1 9 "StateTypes$Program" "kinds" "[I", .fieldLink RX1 15 "StateTypes$Program" "numbers" "[I", .fieldLink RX1 18 "StateTypes$Program" "firsts" "[I", .fieldLink RX1 21 "StateTypes$Program" "seconds" "[I"] ++ wsX10)
def wsX1_addSimple : List Cond := .code yX1_addSimple cX1_addSimple 4 (some .int) :: ([.fieldLink RX1 34 "StateTypes$Program" "statements" "I", .methodLink RX1 44 yX1_addEntry, .instanceMethod yX1_addEntry, .selects RX1 yX1_addEntry yX1_addEntry, .initialized RX1, .code yX1_addEntry cX1_addEntry 5 none, .fieldLink RX1 30 "StateTypes$Program" "entries" "I", .fieldLink RX1 9 "StateTypes$Program" "kinds" "[I", .fieldLink RX1 15 "StateTypes$Program" "numbers" "[I", .fieldLink RX1 18 "StateTypes$Program" "firsts" "[I", .fieldLink RX1 21 "StateTypes$Program" "seconds" "[I"] ++ wsX10)
def wsX1_addOpening : List Cond := .code yX1_addOpening cX1_addOpening 2 (some .int) :: ([.fieldLink RX1 34 "StateTypes$Program" "statements" "I", .fieldLink RX1 37 "StateTypes$Program" "openBlocks" "I", .fieldLink RX1 27 "StateTypes$Program" "open" "[I", .fieldLink RX1 30 "StateTypes$Program" "entries" "I", .methodLink RX1 44 yX1_addEntry, .instanceMethod yX1_addEntry, .selects RX1 yX1_addEntry yX1_addEntry, .initialized RX1, .code yX1_addEntry cX1_addEntry 5 none, .fieldLink RX1 9 "StateTypes$Program" "kinds" "[I", .fieldLink RX1 15 "StateTypes$Program" "numbers" "[I", .fieldLink RX1 18 "StateTypes$Program" "firsts" "[I", .fieldLink RX1 21 "StateTypes$Program" "seconds" "[I"] ++ wsX10)
def wsX1_lastOpened : List Cond := .code yX1_lastOpened cX1_lastOpened 1 (some .int) :: ([.fieldLink RX1 37 "StateTypes$Program" "openBlocks" "I", .fieldLink RX1 27 "StateTypes$Program" "open" "[I"] ++ wsX10)
def wsX1_beginElse : List Cond := .code yX1_beginElse cX1_beginElse 2 (some .boolean) :: ([.fieldLink RX1 9 "StateTypes$Program" "kinds" "[I", .fieldLink RX1 27 "StateTypes$Program" "open" "[I", .fieldLink RX1 37 "StateTypes$Program" "openBlocks" "I", .fieldLink RX1 30 "StateTypes$Program" "entries" "I", .fieldLink RX1 15 "StateTypes$Program" "numbers" "[I", .fieldLink RX1 24 "StateTypes$Program" "jumps" "[I", .methodLink RX1 48 yX1_lastOpened, .instanceMethod yX1_lastOpened, .selects RX1 yX1_lastOpened yX1_lastOpened, .initialized RX1, .code yX1_lastOpened cX1_lastOpened 1 (some .int), .methodLink RX1 52 yX1_hasEntry, .instanceMethod yX1_hasEntry, .selects RX1 yX1_hasEntry yX1_hasEntry, .code yX1_hasEntry cX1_hasEntry 2 (some .boolean), .static yX4_isBelow, .initialized RX4, .code yX4_isBelow cX4_isBelow 2 (some .boolean), .methodLink RX1 44 yX1_addEntry, .instanceMethod yX1_addEntry, .selects RX1 yX1_addEntry yX1_addEntry, .code yX1_addEntry cX1_addEntry 5 none, .fieldLink RX1 18 "StateTypes$Program" "firsts" "[I", .fieldLink RX1 21 "StateTypes$Program" "seconds" "[I"] ++ wsX10)
def wsX1_endBlock_r1 : List Cond := [Cond.fieldLink RX1 30 "StateTypes$Program" "entries" "I", Cond.fieldLink RX1 9 "StateTypes$Program" "kinds" "[I", Cond.fieldLink RX1 15 "StateTypes$Program" "numbers" "[I", Cond.fieldLink RX1 24 "StateTypes$Program" "jumps" "[I", Cond.fieldLink RX1 37 "StateTypes$Program" "openBlocks" "I", Cond.methodLink RX1 56 yX1_beginElse, Cond.instanceMethod yX1_beginElse, Cond.selects RX1 yX1_beginElse yX1_beginElse, Cond.initialized RX1, Cond.code yX1_beginElse cX1_beginElse 2 (some .boolean), Cond.fieldLink RX1 27 "StateTypes$Program" "open" "[I", Cond.methodLink RX1 48 yX1_lastOpened, Cond.instanceMethod yX1_lastOpened, Cond.selects RX1 yX1_lastOpened yX1_lastOpened, Cond.code yX1_lastOpened cX1_lastOpened 1 (some .int), Cond.methodLink RX1 52 yX1_hasEntry, Cond.instanceMethod yX1_hasEntry, Cond.selects RX1 yX1_hasEntry yX1_hasEntry, Cond.code yX1_hasEntry cX1_hasEntry 2 (some .boolean), Cond.static yX4_isBelow, Cond.initialized RX4, Cond.code yX4_isBelow cX4_isBelow 2 (some .boolean), Cond.methodLink RX1 44 yX1_addEntry, Cond.instanceMethod yX1_addEntry]
def wsX1_endBlock_r2 : List Cond := [Cond.selects RX1 yX1_addEntry yX1_addEntry, Cond.code yX1_addEntry cX1_addEntry 5 none, Cond.fieldLink RX1 18 "StateTypes$Program" "firsts" "[I", Cond.fieldLink RX1 21 "StateTypes$Program" "seconds" "[I"]
def wsX1_endBlock : List Cond := .code yX1_endBlock cX1_endBlock 3 (some .boolean) :: ((wsX1_endBlock_r1 ++ wsX1_endBlock_r2) ++ wsX10)
def wsX2_init : List Cond := .code yX2_init cX2_init 1 none :: ([.methodLink RX2 3 objectInit, .instanceMethod objectInit, .code objectInit ⟨#[0xb1]⟩ 1 none, .arrayClass .int, .fieldLink RX2 9 "StateTypes$Protocols" "targets" "[I", .arrayClass .boolean, .fieldLink RX2 15 "StateTypes$Protocols" "finals" "[Z", .methodLink RX2 19 yJ7_fill_53178, .static yJ7_fill_53178, .initialized RJ7, .code yJ7_fill_53178 cJ7_fill_53178 4 none] ++ wsX20)
def wsX2_setTarget : List Cond := .code yX2_setTarget cX2_setTarget 5 (some .boolean) :: ([.fieldLink RX2 9 "StateTypes$Protocols" "targets" "[I", .static yX4_isBelow, .initialized RX4, .code yX4_isBelow cX4_isBelow 2 (some .boolean)] ++ wsX20)
def wsX2_setFinal : List Cond := .code yX2_setFinal cX2_setFinal 4 (some .boolean) :: ([.fieldLink RX2 15 "StateTypes$Protocols" "finals" "[Z", .static yX4_isBelow, .initialized RX4, .code yX4_isBelow cX4_isBelow 2 (some .boolean)] ++ wsX20)
def wsX3_init : List Cond := .code yX3_init cX3_init 3 none :: ([.methodLink RX3 3 objectInit, .instanceMethod objectInit, .code objectInit ⟨#[0xb1]⟩ 1 none, .fieldLink RX3 9 "StateTypes$Running" "program" "LStateTypes$Program;", .fieldLink RX3 15 "StateTypes$Running" "protocols" "LStateTypes$Protocols;", .fieldLink RX3 19 "StateTypes$Running" "fault" "I", .fieldLink RX3 23 "StateTypes$Running" "place" "I", .fieldLink RX3 26 "StateTypes$Running" "all" "I"] ++ wsX30)
def wsX3_takeBit : List Cond := .code yX3_takeBit cX3_takeBit 2 (some .boolean) :: ([.fieldLink RX3 29 "StateTypes$Running" "stepsDone" "I", .fieldLink RX3 35 "StateTypes$Running" "bitsLeft" "I", .fieldLink RX3 32 "StateTypes$Running" "bits" "I"] ++ wsX30)
def wsX3_doSimple_r1 : List Cond := [Cond.fieldLink RX3 9 "StateTypes$Running" "program" "LStateTypes$Program;", Cond.fieldLink RX3 26 "StateTypes$Running" "all" "I", Cond.fieldLink RX3 15 "StateTypes$Running" "protocols" "LStateTypes$Protocols;", Cond.fieldLink RX3 19 "StateTypes$Running" "fault" "I", Cond.fieldLink RX3 23 "StateTypes$Running" "place" "I", Cond.fieldLink RX3 29 "StateTypes$Running" "stepsDone" "I", Cond.methodLink RX3 72 yX1_afterSimple, Cond.instanceMethod yX1_afterSimple, Cond.selects RX1 yX1_afterSimple yX1_afterSimple, Cond.initialized RX1, Cond.code yX1_afterSimple cX1_afterSimple 8 (some .int), Cond.fieldLink RX1 18 "StateTypes$Program" "firsts" "[I", Cond.fieldLink RX1 21 "StateTypes$Program" "seconds" "[I", Cond.fieldLink RX1 9 "StateTypes$Program" "kinds" "[I", Cond.methodLink RX1 52 yX1_hasEntry, Cond.instanceMethod yX1_hasEntry, Cond.selects RX1 yX1_hasEntry yX1_hasEntry, Cond.code yX1_hasEntry cX1_hasEntry 2 (some .boolean), Cond.fieldLink RX1 30 "StateTypes$Program" "entries" "I", Cond.static yX4_isBelow, Cond.initialized RX4, Cond.code yX4_isBelow cX4_isBelow 2 (some .boolean), Cond.static yX4_heldBy, Cond.code yX4_heldBy cX4_heldBy 2 (some .int)]
def wsX3_doSimple_r2 : List Cond := [Cond.static yX4_objectOf, Cond.code yX4_objectOf cX4_objectOf 2 (some .int), Cond.static yX4_withHeld, Cond.code yX4_withHeld cX4_withHeld 4 (some .int), Cond.methodLink RX1 71 yX2_targetOf, Cond.instanceMethod yX2_targetOf, Cond.selects RX2 yX2_targetOf yX2_targetOf, Cond.initialized RX2, Cond.code yX2_targetOf cX2_targetOf 3 (some .int), Cond.fieldLink RX2 9 "StateTypes$Protocols" "targets" "[I", Cond.static yX4_protocolOf, Cond.code yX4_protocolOf cX4_protocolOf 1 (some .int), Cond.methodLink RX1 80 yX2_mayBeLeft, Cond.instanceMethod yX2_mayBeLeft, Cond.selects RX2 yX2_mayBeLeft yX2_mayBeLeft, Cond.code yX2_mayBeLeft cX2_mayBeLeft 2 (some .boolean), Cond.fieldLink RX2 15 "StateTypes$Protocols" "finals" "[Z"]
def wsX3_doSimple : List Cond := .code yX3_doSimple cX3_doSimple 3 none :: ((wsX3_doSimple_r1 ++ wsX3_doSimple_r2) ++ wsX30 ++ wsX10 ++ wsX20)
def wsX3_doEntry_r1 : List Cond := [Cond.fieldLink RX3 9 "StateTypes$Running" "program" "LStateTypes$Program;", Cond.methodLink RX3 61 yX3_takeBit, Cond.instanceMethod yX3_takeBit, Cond.selects RX3 yX3_takeBit yX3_takeBit, Cond.initialized RX3, Cond.code yX3_takeBit cX3_takeBit 2 (some .boolean), Cond.fieldLink RX3 29 "StateTypes$Running" "stepsDone" "I", Cond.fieldLink RX3 35 "StateTypes$Running" "bitsLeft" "I", Cond.fieldLink RX3 32 "StateTypes$Running" "bits" "I", Cond.methodLink RX3 68 yX3_doSimple, Cond.instanceMethod yX3_doSimple, Cond.selects RX3 yX3_doSimple yX3_doSimple, Cond.code yX3_doSimple cX3_doSimple 3 none, Cond.fieldLink RX3 26 "StateTypes$Running" "all" "I", Cond.fieldLink RX3 15 "StateTypes$Running" "protocols" "LStateTypes$Protocols;", Cond.fieldLink RX3 19 "StateTypes$Running" "fault" "I", Cond.fieldLink RX3 23 "StateTypes$Running" "place" "I", Cond.methodLink RX3 72 yX1_afterSimple, Cond.instanceMethod yX1_afterSimple, Cond.selects RX1 yX1_afterSimple yX1_afterSimple, Cond.initialized RX1, Cond.code yX1_afterSimple cX1_afterSimple 8 (some .int), Cond.fieldLink RX1 18 "StateTypes$Program" "firsts" "[I", Cond.fieldLink RX1 21 "StateTypes$Program" "seconds" "[I"]
def wsX3_doEntry_r2 : List Cond := [Cond.fieldLink RX1 9 "StateTypes$Program" "kinds" "[I", Cond.methodLink RX1 52 yX1_hasEntry, Cond.instanceMethod yX1_hasEntry, Cond.selects RX1 yX1_hasEntry yX1_hasEntry, Cond.code yX1_hasEntry cX1_hasEntry 2 (some .boolean), Cond.fieldLink RX1 30 "StateTypes$Program" "entries" "I", Cond.static yX4_isBelow, Cond.initialized RX4, Cond.code yX4_isBelow cX4_isBelow 2 (some .boolean), Cond.static yX4_heldBy, Cond.code yX4_heldBy cX4_heldBy 2 (some .int), Cond.static yX4_objectOf, Cond.code yX4_objectOf cX4_objectOf 2 (some .int), Cond.static yX4_withHeld, Cond.code yX4_withHeld cX4_withHeld 4 (some .int), Cond.methodLink RX1 71 yX2_targetOf, Cond.instanceMethod yX2_targetOf, Cond.selects RX2 yX2_targetOf yX2_targetOf, Cond.initialized RX2, Cond.code yX2_targetOf cX2_targetOf 3 (some .int), Cond.fieldLink RX2 9 "StateTypes$Protocols" "targets" "[I", Cond.static yX4_protocolOf, Cond.code yX4_protocolOf cX4_protocolOf 1 (some .int), Cond.methodLink RX1 80 yX2_mayBeLeft]
def wsX3_doEntry_r3 : List Cond := [Cond.instanceMethod yX2_mayBeLeft, Cond.selects RX2 yX2_mayBeLeft yX2_mayBeLeft, Cond.code yX2_mayBeLeft cX2_mayBeLeft 2 (some .boolean), Cond.fieldLink RX2 15 "StateTypes$Protocols" "finals" "[Z"]
def wsX3_doEntry : List Cond := .code yX3_doEntry cX3_doEntry 2 (some .int) :: ((wsX3_doEntry_r1 ++ (wsX3_doEntry_r2 ++ wsX3_doEntry_r3)) ++ wsX30 ++ wsX10 ++ wsX20)
def wsX3_runProgram_r1 : List Cond := [Cond.fieldLink RX3 19 "StateTypes$Running" "fault" "I", Cond.fieldLink RX3 23 "StateTypes$Running" "place" "I", Cond.fieldLink RX3 29 "StateTypes$Running" "stepsDone" "I", Cond.fieldLink RX3 26 "StateTypes$Running" "all" "I", Cond.fieldLink RX3 32 "StateTypes$Running" "bits" "I", Cond.fieldLink RX3 35 "StateTypes$Running" "bitsLeft" "I", Cond.constant RX3 38 (1000000), Cond.fieldLink RX3 9 "StateTypes$Running" "program" "LStateTypes$Program;", Cond.fieldLink RX3 15 "StateTypes$Running" "protocols" "LStateTypes$Protocols;", Cond.methodLink RX3 39 yX1_hasEntry, Cond.instanceMethod yX1_hasEntry, Cond.selects RX1 yX1_hasEntry yX1_hasEntry, Cond.initialized RX1, Cond.code yX1_hasEntry cX1_hasEntry 2 (some .boolean), Cond.fieldLink RX1 30 "StateTypes$Program" "entries" "I", Cond.static yX4_isBelow, Cond.initialized RX4, Cond.code yX4_isBelow cX4_isBelow 2 (some .boolean), Cond.methodLink RX3 45 yX3_doEntry, Cond.instanceMethod yX3_doEntry, Cond.selects RX3 yX3_doEntry yX3_doEntry, Cond.initialized RX3, Cond.code yX3_doEntry cX3_doEntry 2 (some .int), Cond.methodLink RX3 61 yX3_takeBit]
def wsX3_runProgram_r2 : List Cond := [Cond.instanceMethod yX3_takeBit, Cond.selects RX3 yX3_takeBit yX3_takeBit, Cond.code yX3_takeBit cX3_takeBit 2 (some .boolean), Cond.methodLink RX3 68 yX3_doSimple, Cond.instanceMethod yX3_doSimple, Cond.selects RX3 yX3_doSimple yX3_doSimple, Cond.code yX3_doSimple cX3_doSimple 3 none, Cond.methodLink RX3 72 yX1_afterSimple, Cond.instanceMethod yX1_afterSimple, Cond.selects RX1 yX1_afterSimple yX1_afterSimple, Cond.code yX1_afterSimple cX1_afterSimple 8 (some .int), Cond.fieldLink RX1 18 "StateTypes$Program" "firsts" "[I", Cond.fieldLink RX1 21 "StateTypes$Program" "seconds" "[I", Cond.fieldLink RX1 9 "StateTypes$Program" "kinds" "[I", Cond.methodLink RX1 52 yX1_hasEntry, Cond.static yX4_heldBy, Cond.code yX4_heldBy cX4_heldBy 2 (some .int), Cond.static yX4_objectOf, Cond.code yX4_objectOf cX4_objectOf 2 (some .int), Cond.static yX4_withHeld, Cond.code yX4_withHeld cX4_withHeld 4 (some .int), Cond.methodLink RX1 71 yX2_targetOf, Cond.instanceMethod yX2_targetOf, Cond.selects RX2 yX2_targetOf yX2_targetOf]
def wsX3_runProgram_r3 : List Cond := [Cond.initialized RX2, Cond.code yX2_targetOf cX2_targetOf 3 (some .int), Cond.fieldLink RX2 9 "StateTypes$Protocols" "targets" "[I", Cond.static yX4_protocolOf, Cond.code yX4_protocolOf cX4_protocolOf 1 (some .int), Cond.methodLink RX1 80 yX2_mayBeLeft, Cond.instanceMethod yX2_mayBeLeft, Cond.selects RX2 yX2_mayBeLeft yX2_mayBeLeft, Cond.code yX2_mayBeLeft cX2_mayBeLeft 2 (some .boolean), Cond.fieldLink RX2 15 "StateTypes$Protocols" "finals" "[Z", Cond.methodLink RX3 49 yX2_faultOfLeaving, Cond.instanceMethod yX2_faultOfLeaving, Cond.selects RX2 yX2_faultOfLeaving yX2_faultOfLeaving, Cond.code yX2_faultOfLeaving cX2_faultOfLeaving 4 (some .int), Cond.methodLink RX2 33 yX2_mayBeLeft]
def wsX3_runProgram : List Cond := .code yX3_runProgram cX3_runProgram 5 none :: ((wsX3_runProgram_r1 ++ (wsX3_runProgram_r2 ++ wsX3_runProgram_r3)) ++ wsX30 ++ wsX10 ++ wsX20)
def wsX4_init_r1 : List Cond := [Cond.methodLink RX4 3 objectInit, Cond.instanceMethod objectInit, Cond.code objectInit ⟨#[0xb1]⟩ 1 none, Cond.classLink RX4 9 RX2, Cond.instantiable RX2 2, Cond.initialized RX2, Cond.fieldLink RX4 12 "StateTypes" "protocols" "LStateTypes$Protocols;", Cond.classLink RX4 16 RX1, Cond.instantiable RX1 9, Cond.initialized RX1, Cond.fieldLink RX4 19 "StateTypes" "program" "LStateTypes$Program;", Cond.classLink RX4 23 RX0, Cond.instantiable RX0 5, Cond.initialized RX0, Cond.fieldLink RX4 28 "StateTypes" "checking" "LStateTypes$Checking;", Cond.classLink RX4 32 RX3, Cond.instantiable RX3 8, Cond.initialized RX3, Cond.fieldLink RX4 35 "StateTypes" "running" "LStateTypes$Running;", Cond.methodLink RX4 11 yX2_init, Cond.instanceMethod yX2_init, Cond.code yX2_init cX2_init 1 none, Cond.methodLink RX2 3 objectInit, Cond.arrayClass .int]
def wsX4_init_r2 : List Cond := [Cond.fieldLink RX2 9 "StateTypes$Protocols" "targets" "[I", Cond.arrayClass .boolean, Cond.fieldLink RX2 15 "StateTypes$Protocols" "finals" "[Z", Cond.methodLink RX2 19 yJ7_fill_53178, Cond.static yJ7_fill_53178, Cond.initialized RJ7, Cond.code yJ7_fill_53178 cJ7_fill_53178 4 none, Cond.methodLink RX4 18 yX1_init, Cond.instanceMethod yX1_init, Cond.code yX1_init cX1_init 1 none, Cond.methodLink RX1 3 objectInit, Cond.fieldLink RX1 9 "StateTypes$Program" "kinds" "[I", Cond.fieldLink RX1 15 "StateTypes$Program" "numbers" "[I", Cond.fieldLink RX1 18 "StateTypes$Program" "firsts" "[I", Cond.fieldLink RX1 21 "StateTypes$Program" "seconds" "[I", Cond.fieldLink RX1 24 "StateTypes$Program" "jumps" "[I", Cond.fieldLink RX1 27 "StateTypes$Program" "open" "[I", Cond.methodLink RX4 25 yX0_init, Cond.instanceMethod yX0_init, Cond.code yX0_init cX0_init 3 none, Cond.methodLink RX0 3 objectInit, Cond.fieldLink RX0 9 "StateTypes$Checking" "program" "LStateTypes$Program;", Cond.fieldLink RX0 15 "StateTypes$Checking" "protocols" "LStateTypes$Protocols;", Cond.fieldLink RX0 19 "StateTypes$Checking" "before" "[I"]
def wsX4_init_r3 : List Cond := [Cond.fieldLink RX0 23 "StateTypes$Checking" "afterThen" "[I", Cond.fieldLink RX0 26 "StateTypes$Checking" "place" "I", Cond.methodLink RX0 30 yJ7_fill_53178, Cond.methodLink RX4 34 yX3_init, Cond.instanceMethod yX3_init, Cond.code yX3_init cX3_init 3 none, Cond.methodLink RX3 3 objectInit, Cond.fieldLink RX3 9 "StateTypes$Running" "program" "LStateTypes$Program;", Cond.fieldLink RX3 15 "StateTypes$Running" "protocols" "LStateTypes$Protocols;", Cond.fieldLink RX3 19 "StateTypes$Running" "fault" "I", Cond.fieldLink RX3 23 "StateTypes$Running" "place" "I", Cond.fieldLink RX3 26 "StateTypes$Running" "all" "I"]
def wsX4_init : List Cond := .code yX4_init cX4_init 1 none :: ((wsX4_init_r1 ++ (wsX4_init_r2 ++ wsX4_init_r3)) ++ wsX20 ++ wsX40 ++ wsX10 ++ wsX00 ++ wsX30)
def wsX4_isState : List Cond := .code yX4_isState cX4_isState 2 (some .boolean) :: ([.methodLink RX4 43 yX4_isBelow, .static yX4_isBelow, .initialized RX4, .code yX4_isBelow cX4_isBelow 2 (some .boolean)])
def wsX4_lead : List Cond := .code yX4_lead cX4_lead 6 (some .boolean) :: ([.fieldLink RX4 12 "StateTypes" "protocols" "LStateTypes$Protocols;", .methodLink RX4 39 yX4_isState, .static yX4_isState, .initialized RX4, .code yX4_isState cX4_isState 2 (some .boolean), .methodLink RX4 43 yX4_isBelow, .static yX4_isBelow, .code yX4_isBelow cX4_isBelow 2 (some .boolean), .methodLink RX4 46 yX4_objectOf, .static yX4_objectOf, .code yX4_objectOf cX4_objectOf 2 (some .int), .methodLink RX4 50 yX2_setTarget, .instanceMethod yX2_setTarget, .selects RX2 yX2_setTarget yX2_setTarget, .initialized RX2, .code yX2_setTarget cX2_setTarget 5 (some .boolean), .fieldLink RX2 9 "StateTypes$Protocols" "targets" "[I"] ++ wsX40 ++ wsX20)
def wsX4_mark : List Cond := .code yX4_mark cX4_mark 4 (some .boolean) :: ([.fieldLink RX4 12 "StateTypes" "protocols" "LStateTypes$Protocols;", .methodLink RX4 39 yX4_isState, .static yX4_isState, .initialized RX4, .code yX4_isState cX4_isState 2 (some .boolean), .methodLink RX4 43 yX4_isBelow, .static yX4_isBelow, .code yX4_isBelow cX4_isBelow 2 (some .boolean), .methodLink RX4 46 yX4_objectOf, .static yX4_objectOf, .code yX4_objectOf cX4_objectOf 2 (some .int), .methodLink RX4 54 yX2_setFinal, .instanceMethod yX2_setFinal, .selects RX2 yX2_setFinal yX2_setFinal, .initialized RX2, .code yX2_setFinal cX2_setFinal 4 (some .boolean), .fieldLink RX2 15 "StateTypes$Protocols" "finals" "[Z"] ++ wsX40 ++ wsX20)
def wsX4_isVariable : List Cond := .code yX4_isVariable cX4_isVariable 1 (some .boolean) :: ([.methodLink RX4 43 yX4_isBelow, .static yX4_isBelow, .initialized RX4, .code yX4_isBelow cX4_isBelow 2 (some .boolean)])
def wsX4_make : List Cond := .code yX4_make cX4_make 3 (some .int) :: ([.fieldLink RX4 19 "StateTypes" "program" "LStateTypes$Program;", .methodLink RX4 58 yX4_isVariable, .static yX4_isVariable, .initialized RX4, .code yX4_isVariable cX4_isVariable 1 (some .boolean), .methodLink RX4 43 yX4_isBelow, .static yX4_isBelow, .code yX4_isBelow cX4_isBelow 2 (some .boolean), .methodLink RX4 62 yX1_addSimple, .instanceMethod yX1_addSimple, .selects RX1 yX1_addSimple yX1_addSimple, .initialized RX1, .code yX1_addSimple cX1_addSimple 4 (some .int), .fieldLink RX1 34 "StateTypes$Program" "statements" "I", .methodLink RX1 44 yX1_addEntry, .instanceMethod yX1_addEntry, .selects RX1 yX1_addEntry yX1_addEntry, .code yX1_addEntry cX1_addEntry 5 none, .fieldLink RX1 30 "StateTypes$Program" "entries" "I", .fieldLink RX1 9 "StateTypes$Program" "kinds" "[I", .fieldLink RX1 15 "StateTypes$Program" "numbers" "[I", .fieldLink RX1 18 "StateTypes$Program" "firsts" "[I", .fieldLink RX1 21 "StateTypes$Program" "seconds" "[I"] ++ wsX40 ++ wsX10)
def wsX4_call : List Cond := .code yX4_call cX4_call 3 (some .int) :: ([.fieldLink RX4 19 "StateTypes" "program" "LStateTypes$Program;", .methodLink RX4 58 yX4_isVariable, .static yX4_isVariable, .initialized RX4, .code yX4_isVariable cX4_isVariable 1 (some .boolean), .methodLink RX4 43 yX4_isBelow, .static yX4_isBelow, .code yX4_isBelow cX4_isBelow 2 (some .boolean), .methodLink RX4 62 yX1_addSimple, .instanceMethod yX1_addSimple, .selects RX1 yX1_addSimple yX1_addSimple, .initialized RX1, .code yX1_addSimple cX1_addSimple 4 (some .int), .fieldLink RX1 34 "StateTypes$Program" "statements" "I", .methodLink RX1 44 yX1_addEntry, .instanceMethod yX1_addEntry, .selects RX1 yX1_addEntry yX1_addEntry, .code yX1_addEntry cX1_addEntry 5 none, .fieldLink RX1 30 "StateTypes$Program" "entries" "I", .fieldLink RX1 9 "StateTypes$Program" "kinds" "[I", .fieldLink RX1 15 "StateTypes$Program" "numbers" "[I", .fieldLink RX1 18 "StateTypes$Program" "firsts" "[I", .fieldLink RX1 21 "StateTypes$Program" "seconds" "[I"] ++ wsX40 ++ wsX10)
def wsX4_move : List Cond := .code yX4_move cX4_move 3 (some .int) :: ([.fieldLink RX4 19 "StateTypes" "program" "LStateTypes$Program;", .methodLink RX4 58 yX4_isVariable, .static yX4_isVariable, .initialized RX4, .code yX4_isVariable cX4_isVariable 1 (some .boolean), .methodLink RX4 43 yX4_isBelow, .static yX4_isBelow, .code yX4_isBelow cX4_isBelow 2 (some .boolean), .methodLink RX4 62 yX1_addSimple, .instanceMethod yX1_addSimple, .selects RX1 yX1_addSimple yX1_addSimple, .initialized RX1, .code yX1_addSimple cX1_addSimple 4 (some .int), .fieldLink RX1 34 "StateTypes$Program" "statements" "I", .methodLink RX1 44 yX1_addEntry, .instanceMethod yX1_addEntry, .selects RX1 yX1_addEntry yX1_addEntry, .code yX1_addEntry cX1_addEntry 5 none, .fieldLink RX1 30 "StateTypes$Program" "entries" "I", .fieldLink RX1 9 "StateTypes$Program" "kinds" "[I", .fieldLink RX1 15 "StateTypes$Program" "numbers" "[I", .fieldLink RX1 18 "StateTypes$Program" "firsts" "[I", .fieldLink RX1 21 "StateTypes$Program" "seconds" "[I"] ++ wsX40 ++ wsX10)
def wsX4_drop : List Cond := .code yX4_drop cX4_drop 2 (some .int) :: ([.fieldLink RX4 19 "StateTypes" "program" "LStateTypes$Program;", .methodLink RX4 58 yX4_isVariable, .static yX4_isVariable, .initialized RX4, .code yX4_isVariable cX4_isVariable 1 (some .boolean), .methodLink RX4 43 yX4_isBelow, .static yX4_isBelow, .code yX4_isBelow cX4_isBelow 2 (some .boolean), .methodLink RX4 62 yX1_addSimple, .instanceMethod yX1_addSimple, .selects RX1 yX1_addSimple yX1_addSimple, .initialized RX1, .code yX1_addSimple cX1_addSimple 4 (some .int), .fieldLink RX1 34 "StateTypes$Program" "statements" "I", .methodLink RX1 44 yX1_addEntry, .instanceMethod yX1_addEntry, .selects RX1 yX1_addEntry yX1_addEntry, .code yX1_addEntry cX1_addEntry 5 none, .fieldLink RX1 30 "StateTypes$Program" "entries" "I", .fieldLink RX1 9 "StateTypes$Program" "kinds" "[I", .fieldLink RX1 15 "StateTypes$Program" "numbers" "[I", .fieldLink RX1 18 "StateTypes$Program" "firsts" "[I", .fieldLink RX1 21 "StateTypes$Program" "seconds" "[I"] ++ wsX40 ++ wsX10)
def wsX4_choose : List Cond := .code yX4_choose cX4_choose 1 (some .int) :: ([.fieldLink RX4 19 "StateTypes" "program" "LStateTypes$Program;", .methodLink RX4 66 yX1_addOpening, .instanceMethod yX1_addOpening, .selects RX1 yX1_addOpening yX1_addOpening, .initialized RX1, .code yX1_addOpening cX1_addOpening 2 (some .int), .fieldLink RX1 34 "StateTypes$Program" "statements" "I", .fieldLink RX1 37 "StateTypes$Program" "openBlocks" "I", .fieldLink RX1 27 "StateTypes$Program" "open" "[I", .fieldLink RX1 30 "StateTypes$Program" "entries" "I", .methodLink RX1 44 yX1_addEntry, .instanceMethod yX1_addEntry, .selects RX1 yX1_addEntry yX1_addEntry, .code yX1_addEntry cX1_addEntry 5 none, .fieldLink RX1 9 "StateTypes$Program" "kinds" "[I", .fieldLink RX1 15 "StateTypes$Program" "numbers" "[I", .fieldLink RX1 18 "StateTypes$Program" "firsts" "[I", .fieldLink RX1 21 "StateTypes$Program" "seconds" "[I"] ++ wsX40 ++ wsX10)
def wsX4_otherwise_r1 : List Cond := [Cond.fieldLink RX4 19 "StateTypes" "program" "LStateTypes$Program;", Cond.methodLink RX4 70 yX1_beginElse, Cond.instanceMethod yX1_beginElse, Cond.selects RX1 yX1_beginElse yX1_beginElse, Cond.initialized RX1, Cond.code yX1_beginElse cX1_beginElse 2 (some .boolean), Cond.fieldLink RX1 9 "StateTypes$Program" "kinds" "[I", Cond.fieldLink RX1 27 "StateTypes$Program" "open" "[I", Cond.fieldLink RX1 37 "StateTypes$Program" "openBlocks" "I", Cond.fieldLink RX1 30 "StateTypes$Program" "entries" "I", Cond.fieldLink RX1 15 "StateTypes$Program" "numbers" "[I", Cond.fieldLink RX1 24 "StateTypes$Program" "jumps" "[I", Cond.methodLink RX1 48 yX1_lastOpened, Cond.instanceMethod yX1_lastOpened, Cond.selects RX1 yX1_lastOpened yX1_lastOpened, Cond.code yX1_lastOpened cX1_lastOpened 1 (some .int), Cond.methodLink RX1 52 yX1_hasEntry, Cond.instanceMethod yX1_hasEntry, Cond.selects RX1 yX1_hasEntry yX1_hasEntry, Cond.code yX1_hasEntry cX1_hasEntry 2 (some .boolean), Cond.static yX4_isBelow, Cond.initialized RX4, Cond.code yX4_isBelow cX4_isBelow 2 (some .boolean), Cond.methodLink RX1 44 yX1_addEntry]
def wsX4_otherwise_r2 : List Cond := [Cond.instanceMethod yX1_addEntry, Cond.selects RX1 yX1_addEntry yX1_addEntry, Cond.code yX1_addEntry cX1_addEntry 5 none, Cond.fieldLink RX1 18 "StateTypes$Program" "firsts" "[I", Cond.fieldLink RX1 21 "StateTypes$Program" "seconds" "[I"]
def wsX4_otherwise : List Cond := .code yX4_otherwise cX4_otherwise 1 (some .boolean) :: ((wsX4_otherwise_r1 ++ wsX4_otherwise_r2) ++ wsX40 ++ wsX10)
def wsX4_repeat : List Cond := .code yX4_repeat cX4_repeat 1 (some .int) :: ([.fieldLink RX4 19 "StateTypes" "program" "LStateTypes$Program;", .methodLink RX4 66 yX1_addOpening, .instanceMethod yX1_addOpening, .selects RX1 yX1_addOpening yX1_addOpening, .initialized RX1, .code yX1_addOpening cX1_addOpening 2 (some .int), .fieldLink RX1 34 "StateTypes$Program" "statements" "I", .fieldLink RX1 37 "StateTypes$Program" "openBlocks" "I", .fieldLink RX1 27 "StateTypes$Program" "open" "[I", .fieldLink RX1 30 "StateTypes$Program" "entries" "I", .methodLink RX1 44 yX1_addEntry, .instanceMethod yX1_addEntry, .selects RX1 yX1_addEntry yX1_addEntry, .code yX1_addEntry cX1_addEntry 5 none, .fieldLink RX1 9 "StateTypes$Program" "kinds" "[I", .fieldLink RX1 15 "StateTypes$Program" "numbers" "[I", .fieldLink RX1 18 "StateTypes$Program" "firsts" "[I", .fieldLink RX1 21 "StateTypes$Program" "seconds" "[I"] ++ wsX40 ++ wsX10)
def wsX4_end_r1 : List Cond := [Cond.fieldLink RX4 19 "StateTypes" "program" "LStateTypes$Program;", Cond.methodLink RX4 74 yX1_endBlock, Cond.instanceMethod yX1_endBlock, Cond.selects RX1 yX1_endBlock yX1_endBlock, Cond.initialized RX1, Cond.code yX1_endBlock cX1_endBlock 3 (some .boolean), Cond.fieldLink RX1 30 "StateTypes$Program" "entries" "I", Cond.fieldLink RX1 9 "StateTypes$Program" "kinds" "[I", Cond.fieldLink RX1 15 "StateTypes$Program" "numbers" "[I", Cond.fieldLink RX1 24 "StateTypes$Program" "jumps" "[I", Cond.fieldLink RX1 37 "StateTypes$Program" "openBlocks" "I", Cond.methodLink RX1 56 yX1_beginElse, Cond.instanceMethod yX1_beginElse, Cond.selects RX1 yX1_beginElse yX1_beginElse, Cond.code yX1_beginElse cX1_beginElse 2 (some .boolean), Cond.fieldLink RX1 27 "StateTypes$Program" "open" "[I", Cond.methodLink RX1 48 yX1_lastOpened, Cond.instanceMethod yX1_lastOpened, Cond.selects RX1 yX1_lastOpened yX1_lastOpened, Cond.code yX1_lastOpened cX1_lastOpened 1 (some .int), Cond.methodLink RX1 52 yX1_hasEntry, Cond.instanceMethod yX1_hasEntry, Cond.selects RX1 yX1_hasEntry yX1_hasEntry, Cond.code yX1_hasEntry cX1_hasEntry 2 (some .boolean)]
def wsX4_end_r2 : List Cond := [Cond.static yX4_isBelow, Cond.initialized RX4, Cond.code yX4_isBelow cX4_isBelow 2 (some .boolean), Cond.methodLink RX1 44 yX1_addEntry, Cond.instanceMethod yX1_addEntry, Cond.selects RX1 yX1_addEntry yX1_addEntry, Cond.code yX1_addEntry cX1_addEntry 5 none, Cond.fieldLink RX1 18 "StateTypes$Program" "firsts" "[I", Cond.fieldLink RX1 21 "StateTypes$Program" "seconds" "[I"]
def wsX4_end : List Cond := .code yX4_end cX4_end 1 (some .boolean) :: ((wsX4_end_r1 ++ wsX4_end_r2) ++ wsX40 ++ wsX10)
def wsX4_clear : List Cond := .code yX4_clear cX4_clear 1 none :: ([.fieldLink RX4 19 "StateTypes" "program" "LStateTypes$Program;", .methodLink RX4 77 yX1_removeAll, .instanceMethod yX1_removeAll, .selects RX1 yX1_removeAll yX1_removeAll, .initialized RX1, .code yX1_removeAll cX1_removeAll 1 none, .fieldLink RX1 30 "StateTypes$Program" "entries" "I", .fieldLink RX1 34 "StateTypes$Program" "statements" "I", .fieldLink RX1 37 "StateTypes$Program" "openBlocks" "I"] ++ wsX40 ++ wsX10)
def wsX4_size : List Cond := .code yX4_size cX4_size 1 (some .int) :: ([.fieldLink RX4 19 "StateTypes" "program" "LStateTypes$Program;"] ++ wsX40 ++ wsX10)
def wsX4_check_r1 : List Cond := [Cond.fieldLink RX4 28 "StateTypes" "checking" "LStateTypes$Checking;", Cond.methodLink RX4 84 yX0_checkProgram, Cond.instanceMethod yX0_checkProgram, Cond.selects RX0 yX0_checkProgram yX0_checkProgram, Cond.initialized RX0, Cond.code yX0_checkProgram cX0_checkProgram 4 (some .int), Cond.fieldLink RX0 19 "StateTypes$Checking" "before" "[I", Cond.fieldLink RX0 9 "StateTypes$Checking" "program" "LStateTypes$Program;", Cond.fieldLink RX0 26 "StateTypes$Checking" "place" "I", Cond.fieldLink RX0 15 "StateTypes$Checking" "protocols" "LStateTypes$Protocols;", Cond.methodLink RX0 30 yJ7_fill_53178, Cond.static yJ7_fill_53178, Cond.initialized RJ7, Cond.code yJ7_fill_53178 cJ7_fill_53178 4 none, Cond.methodLink RX0 45 yX1_hasOpenBlocks, Cond.instanceMethod yX1_hasOpenBlocks, Cond.selects RX1 yX1_hasOpenBlocks yX1_hasOpenBlocks, Cond.initialized RX1, Cond.code yX1_hasOpenBlocks cX1_hasOpenBlocks 1 (some .boolean), Cond.fieldLink RX1 37 "StateTypes$Program" "openBlocks" "I", Cond.methodLink RX0 52 yX0_afterEntry, Cond.instanceMethod yX0_afterEntry, Cond.selects RX0 yX0_afterEntry yX0_afterEntry, Cond.code yX0_afterEntry cX0_afterEntry 4 (some .int)]
def wsX4_check_r2 : List Cond := [Cond.fieldLink RX0 23 "StateTypes$Checking" "afterThen" "[I", Cond.methodLink RX0 65 yX1_hasEntry, Cond.instanceMethod yX1_hasEntry, Cond.selects RX1 yX1_hasEntry yX1_hasEntry, Cond.code yX1_hasEntry cX1_hasEntry 2 (some .boolean), Cond.fieldLink RX1 30 "StateTypes$Program" "entries" "I", Cond.static yX4_isBelow, Cond.initialized RX4, Cond.code yX4_isBelow cX4_isBelow 2 (some .boolean), Cond.methodLink RX0 72 yX1_afterSimple, Cond.instanceMethod yX1_afterSimple, Cond.selects RX1 yX1_afterSimple yX1_afterSimple, Cond.code yX1_afterSimple cX1_afterSimple 8 (some .int), Cond.fieldLink RX1 18 "StateTypes$Program" "firsts" "[I", Cond.fieldLink RX1 21 "StateTypes$Program" "seconds" "[I", Cond.fieldLink RX1 9 "StateTypes$Program" "kinds" "[I", Cond.methodLink RX1 52 yX1_hasEntry, Cond.static yX4_heldBy, Cond.code yX4_heldBy cX4_heldBy 2 (some .int), Cond.static yX4_objectOf, Cond.code yX4_objectOf cX4_objectOf 2 (some .int), Cond.static yX4_withHeld, Cond.code yX4_withHeld cX4_withHeld 4 (some .int), Cond.methodLink RX1 71 yX2_targetOf]
def wsX4_check_r3 : List Cond := [Cond.instanceMethod yX2_targetOf, Cond.selects RX2 yX2_targetOf yX2_targetOf, Cond.initialized RX2, Cond.code yX2_targetOf cX2_targetOf 3 (some .int), Cond.fieldLink RX2 9 "StateTypes$Protocols" "targets" "[I", Cond.static yX4_protocolOf, Cond.code yX4_protocolOf cX4_protocolOf 1 (some .int), Cond.methodLink RX1 80 yX2_mayBeLeft, Cond.instanceMethod yX2_mayBeLeft, Cond.selects RX2 yX2_mayBeLeft yX2_mayBeLeft, Cond.code yX2_mayBeLeft cX2_mayBeLeft 2 (some .boolean), Cond.fieldLink RX2 15 "StateTypes$Protocols" "finals" "[Z", Cond.methodLink RX0 59 yX2_faultOfLeaving, Cond.instanceMethod yX2_faultOfLeaving, Cond.selects RX2 yX2_faultOfLeaving yX2_faultOfLeaving, Cond.code yX2_faultOfLeaving cX2_faultOfLeaving 4 (some .int), Cond.methodLink RX2 33 yX2_mayBeLeft]
def wsX4_check : List Cond := .code yX4_check cX4_check 1 (some .int) :: ((wsX4_check_r1 ++ (wsX4_check_r2 ++ wsX4_check_r3)) ++ wsX40 ++ wsX00 ++ wsX10 ++ wsX20)
def wsX4_faultAt : List Cond := .code yX4_faultAt cX4_faultAt 1 (some .int) :: ([.fieldLink RX4 28 "StateTypes" "checking" "LStateTypes$Checking;"] ++ wsX40 ++ wsX00)
def wsX4_held : List Cond := .code yX4_held cX4_held 4 (some .int) :: ([.fieldLink RX4 28 "StateTypes" "checking" "LStateTypes$Checking;", .methodLink RX4 91 yX0_heldBefore, .instanceMethod yX0_heldBefore, .selects RX0 yX0_heldBefore yX0_heldBefore, .initialized RX0, .code yX0_heldBefore cX0_heldBefore 2 (some .int), .fieldLink RX0 19 "StateTypes$Checking" "before" "[I", .static yX4_isBelow, .initialized RX4, .code yX4_isBelow cX4_isBelow 2 (some .boolean), .methodLink RX4 58 yX4_isVariable, .static yX4_isVariable, .code yX4_isVariable cX4_isVariable 1 (some .boolean), .methodLink RX4 43 yX4_isBelow, .methodLink RX4 94 yX4_heldBy, .static yX4_heldBy, .code yX4_heldBy cX4_heldBy 2 (some .int)] ++ wsX40 ++ wsX00)
def wsX4_run_r1 : List Cond := [Cond.classLink RX4 97 "java/lang/IllegalArgumentException", Cond.initialized "java/lang/IllegalArgumentException", Cond.classLink RX4 116 "java/lang/IllegalStateException", Cond.initialized "java/lang/IllegalStateException", Cond.fieldLink RX4 19 "StateTypes" "program" "LStateTypes$Program;", Cond.fieldLink RX4 35 "StateTypes" "running" "LStateTypes$Running;", Cond.methodLink RX4 104 yX1_hasOpenBlocks, Cond.instanceMethod yX1_hasOpenBlocks, Cond.selects RX1 yX1_hasOpenBlocks yX1_hasOpenBlocks, Cond.initialized RX1, Cond.code yX1_hasOpenBlocks cX1_hasOpenBlocks 1 (some .boolean), Cond.fieldLink RX1 37 "StateTypes$Program" "openBlocks" "I", Cond.methodLink RX4 109 yX3_runProgram, Cond.instanceMethod yX3_runProgram, Cond.selects RX3 yX3_runProgram yX3_runProgram, Cond.initialized RX3, Cond.code yX3_runProgram cX3_runProgram 5 none, Cond.fieldLink RX3 19 "StateTypes$Running" "fault" "I", Cond.fieldLink RX3 23 "StateTypes$Running" "place" "I", Cond.fieldLink RX3 29 "StateTypes$Running" "stepsDone" "I", Cond.fieldLink RX3 26 "StateTypes$Running" "all" "I", Cond.fieldLink RX3 32 "StateTypes$Running" "bits" "I", Cond.fieldLink RX3 35 "StateTypes$Running" "bitsLeft" "I", Cond.constant RX3 38 (1000000)]
def wsX4_run_r2 : List Cond := [Cond.fieldLink RX3 9 "StateTypes$Running" "program" "LStateTypes$Program;", Cond.fieldLink RX3 15 "StateTypes$Running" "protocols" "LStateTypes$Protocols;", Cond.methodLink RX3 39 yX1_hasEntry, Cond.instanceMethod yX1_hasEntry, Cond.selects RX1 yX1_hasEntry yX1_hasEntry, Cond.code yX1_hasEntry cX1_hasEntry 2 (some .boolean), Cond.fieldLink RX1 30 "StateTypes$Program" "entries" "I", Cond.static yX4_isBelow, Cond.initialized RX4, Cond.code yX4_isBelow cX4_isBelow 2 (some .boolean), Cond.methodLink RX3 45 yX3_doEntry, Cond.instanceMethod yX3_doEntry, Cond.selects RX3 yX3_doEntry yX3_doEntry, Cond.code yX3_doEntry cX3_doEntry 2 (some .int), Cond.methodLink RX3 61 yX3_takeBit, Cond.instanceMethod yX3_takeBit, Cond.selects RX3 yX3_takeBit yX3_takeBit, Cond.code yX3_takeBit cX3_takeBit 2 (some .boolean), Cond.methodLink RX3 68 yX3_doSimple, Cond.instanceMethod yX3_doSimple, Cond.selects RX3 yX3_doSimple yX3_doSimple, Cond.code yX3_doSimple cX3_doSimple 3 none, Cond.methodLink RX3 72 yX1_afterSimple, Cond.instanceMethod yX1_afterSimple]
def wsX4_run_r3 : List Cond := [Cond.selects RX1 yX1_afterSimple yX1_afterSimple, Cond.code yX1_afterSimple cX1_afterSimple 8 (some .int), Cond.fieldLink RX1 18 "StateTypes$Program" "firsts" "[I", Cond.fieldLink RX1 21 "StateTypes$Program" "seconds" "[I", Cond.fieldLink RX1 9 "StateTypes$Program" "kinds" "[I", Cond.methodLink RX1 52 yX1_hasEntry, Cond.static yX4_heldBy, Cond.code yX4_heldBy cX4_heldBy 2 (some .int), Cond.static yX4_objectOf, Cond.code yX4_objectOf cX4_objectOf 2 (some .int), Cond.static yX4_withHeld, Cond.code yX4_withHeld cX4_withHeld 4 (some .int), Cond.methodLink RX1 71 yX2_targetOf, Cond.instanceMethod yX2_targetOf, Cond.selects RX2 yX2_targetOf yX2_targetOf, Cond.initialized RX2, Cond.code yX2_targetOf cX2_targetOf 3 (some .int), Cond.fieldLink RX2 9 "StateTypes$Protocols" "targets" "[I", Cond.static yX4_protocolOf, Cond.code yX4_protocolOf cX4_protocolOf 1 (some .int), Cond.methodLink RX1 80 yX2_mayBeLeft, Cond.instanceMethod yX2_mayBeLeft, Cond.selects RX2 yX2_mayBeLeft yX2_mayBeLeft, Cond.code yX2_mayBeLeft cX2_mayBeLeft 2 (some .boolean)]
def wsX4_run_r4 : List Cond := [Cond.fieldLink RX2 15 "StateTypes$Protocols" "finals" "[Z", Cond.methodLink RX3 49 yX2_faultOfLeaving, Cond.instanceMethod yX2_faultOfLeaving, Cond.selects RX2 yX2_faultOfLeaving yX2_faultOfLeaving, Cond.code yX2_faultOfLeaving cX2_faultOfLeaving 4 (some .int), Cond.methodLink RX2 33 yX2_mayBeLeft]
def wsX4_run : List Cond := .code yX4_run cX4_run 3 (some .int) :: ((wsX4_run_r1 ++ (wsX4_run_r2 ++ (wsX4_run_r3 ++ wsX4_run_r4))) ++ wsX40 ++ wsX30 ++ wsX10 ++ wsX20 ++ (vx_atS RX4 101 "java/lang/IllegalArgumentException" ["java/lang/RuntimeException", "java/lang/Exception"]).filter goodWord ++ (vx_atS RX4 120 "java/lang/IllegalStateException" ["java/lang/RuntimeException", "java/lang/Exception"]).filter goodWord)
def wsX4_runFault : List Cond := .code yX4_runFault cX4_runFault 1 (some .int) :: ([.fieldLink RX4 35 "StateTypes" "running" "LStateTypes$Running;"] ++ wsX40 ++ wsX30)
def wsX4_runAt : List Cond := .code yX4_runAt cX4_runAt 1 (some .int) :: ([.fieldLink RX4 35 "StateTypes" "running" "LStateTypes$Running;"] ++ wsX40 ++ wsX30)
def wsX4_steps : List Cond := .code yX4_steps cX4_steps 1 (some .int) :: ([.fieldLink RX4 35 "StateTypes" "running" "LStateTypes$Running;"] ++ wsX40 ++ wsX30)
def wsX4_left : List Cond := .code yX4_left cX4_left 2 (some .int) :: ([.fieldLink RX4 35 "StateTypes" "running" "LStateTypes$Running;", .methodLink RX4 58 yX4_isVariable, .static yX4_isVariable, .initialized RX4, .code yX4_isVariable cX4_isVariable 1 (some .boolean), .methodLink RX4 43 yX4_isBelow, .static yX4_isBelow, .code yX4_isBelow cX4_isBelow 2 (some .boolean), .methodLink RX4 94 yX4_heldBy, .static yX4_heldBy, .code yX4_heldBy cX4_heldBy 2 (some .int)] ++ wsX40 ++ wsX30)
def wsX5_init : List Cond := .code yX5_init cX5_init 2 none :: ([.methodLink RX5 1 objectInit, .instanceMethod objectInit, .code objectInit ⟨#[0xb1]⟩ 1 none, .arrayClass .int, .fieldLink RX5 7 "StateTypesModel" "leads" "[I", .arrayClass .boolean, .fieldLink RX5 13 "StateTypesModel" "last" "[Z", .fieldLink RX5 17 "StateTypesModel" "kind" "[I", .fieldLink RX5 20 "StateTypesModel" "first" "[I", .fieldLink RX5 23 "StateTypesModel" "second" "[I", .fieldLink RX5 26 "StateTypesModel" "middle" "[I", .fieldLink RX5 29 "StateTypesModel" "behind" "[I", .fieldLink RX5 32 "StateTypesModel" "open" "[I", .fieldLink RX5 35 "StateTypesModel" "inElse" "[Z", .fieldLink RX5 38 "StateTypesModel" "now" "[I", .fieldLink RX5 41 "StateTypesModel" "left" "[I", .fieldLink RX5 44 "StateTypesModel" "held" "[I", .fieldLink RX5 47 "StateTypesModel" "pile" "[I", .fieldLink RX5 50 "StateTypesModel" "other" "[Z", .fieldLink RX5 53 "StateTypesModel" "before" "[I", .fieldLink RX5 56 "StateTypesModel" "after" "[I", .fieldLink RX5 59 "StateTypesModel" "place" "I", .fieldLink RX5 63 "StateTypesModel" "runPlace" "I"] ++ wsX50)
def wsX5_thrown : List Cond := .code yX5_thrown cX5_thrown 1 (some .int) :: ([.fieldLink RX5 66 "StateTypesModel" "thrown" "I"] ++ wsX50)
def wsX5_within : List Cond := .code yX5_within cX5_within 2 (some .boolean) :: ([])
def wsX5_lead : List Cond := .code yX5_lead cX5_lead 5 (some .boolean) :: ([.fieldLink RX5 66 "StateTypesModel" "thrown" "I", .fieldLink RX5 7 "StateTypesModel" "leads" "[I", .methodLink RX5 69 yX5_within, .static yX5_within, .initialized RX5, .code yX5_within cX5_within 2 (some .boolean)] ++ wsX50)
def wsX5_mark : List Cond := .code yX5_mark cX5_mark 4 (some .boolean) :: ([.fieldLink RX5 66 "StateTypesModel" "thrown" "I", .fieldLink RX5 13 "StateTypesModel" "last" "[Z", .methodLink RX5 69 yX5_within, .static yX5_within, .initialized RX5, .code yX5_within cX5_within 2 (some .boolean)] ++ wsX50)
def wsX5_add : List Cond := .code yX5_add cX5_add 4 (some .int) :: ([.fieldLink RX5 73 "StateTypesModel" "size" "I", .fieldLink RX5 17 "StateTypesModel" "kind" "[I", .fieldLink RX5 20 "StateTypesModel" "first" "[I", .fieldLink RX5 23 "StateTypesModel" "second" "[I"] ++ wsX50)
def wsX5_make : List Cond := .code yX5_make cX5_make 3 (some .int) :: ([.fieldLink RX5 66 "StateTypesModel" "thrown" "I", .methodLink RX5 69 yX5_within, .static yX5_within, .initialized RX5, .code yX5_within cX5_within 2 (some .boolean), .methodLink RX5 76 yX5_add, .instanceMethod yX5_add, .selects RX5 yX5_add yX5_add, .code yX5_add cX5_add 4 (some .int), .fieldLink RX5 73 "StateTypesModel" "size" "I", .fieldLink RX5 17 "StateTypesModel" "kind" "[I", .fieldLink RX5 20 "StateTypesModel" "first" "[I", .fieldLink RX5 23 "StateTypesModel" "second" "[I"] ++ wsX50)
def wsX5_call : List Cond := .code yX5_call cX5_call 3 (some .int) :: ([.fieldLink RX5 66 "StateTypesModel" "thrown" "I", .methodLink RX5 69 yX5_within, .static yX5_within, .initialized RX5, .code yX5_within cX5_within 2 (some .boolean), .methodLink RX5 76 yX5_add, .instanceMethod yX5_add, .selects RX5 yX5_add yX5_add, .code yX5_add cX5_add 4 (some .int), .fieldLink RX5 73 "StateTypesModel" "size" "I", .fieldLink RX5 17 "StateTypesModel" "kind" "[I", .fieldLink RX5 20 "StateTypesModel" "first" "[I", .fieldLink RX5 23 "StateTypesModel" "second" "[I"] ++ wsX50)
def wsX5_move : List Cond := .code yX5_move cX5_move 3 (some .int) :: ([.fieldLink RX5 66 "StateTypesModel" "thrown" "I", .methodLink RX5 69 yX5_within, .static yX5_within, .initialized RX5, .code yX5_within cX5_within 2 (some .boolean), .methodLink RX5 76 yX5_add, .instanceMethod yX5_add, .selects RX5 yX5_add yX5_add, .code yX5_add cX5_add 4 (some .int), .fieldLink RX5 73 "StateTypesModel" "size" "I", .fieldLink RX5 17 "StateTypesModel" "kind" "[I", .fieldLink RX5 20 "StateTypesModel" "first" "[I", .fieldLink RX5 23 "StateTypesModel" "second" "[I"] ++ wsX50)
def wsX5_drop : List Cond := .code yX5_drop cX5_drop 2 (some .int) :: ([.fieldLink RX5 66 "StateTypesModel" "thrown" "I", .methodLink RX5 69 yX5_within, .static yX5_within, .initialized RX5, .code yX5_within cX5_within 2 (some .boolean), .methodLink RX5 76 yX5_add, .instanceMethod yX5_add, .selects RX5 yX5_add yX5_add, .code yX5_add cX5_add 4 (some .int), .fieldLink RX5 73 "StateTypesModel" "size" "I", .fieldLink RX5 17 "StateTypesModel" "kind" "[I", .fieldLink RX5 20 "StateTypesModel" "first" "[I", .fieldLink RX5 23 "StateTypesModel" "second" "[I"] ++ wsX50)
def wsX5_begin : List Cond := .code yX5_begin cX5_begin 3 (some .int) :: ([.fieldLink RX5 80 "StateTypesModel" "opened" "I", .fieldLink RX5 32 "StateTypesModel" "open" "[I", .fieldLink RX5 35 "StateTypesModel" "inElse" "[Z", .methodLink RX5 76 yX5_add, .instanceMethod yX5_add, .selects RX5 yX5_add yX5_add, .initialized RX5, .code yX5_add cX5_add 4 (some .int), .fieldLink RX5 73 "StateTypesModel" "size" "I", .fieldLink RX5 17 "StateTypesModel" "kind" "[I", .fieldLink RX5 20 "StateTypesModel" "first" "[I", .fieldLink RX5 23 "StateTypesModel" "second" "[I"] ++ wsX50)
def wsX5_choose : List Cond := .code yX5_choose cX5_choose 1 (some .int) :: ([.fieldLink RX5 66 "StateTypesModel" "thrown" "I", .methodLink RX5 83 yX5_begin, .instanceMethod yX5_begin, .selects RX5 yX5_begin yX5_begin, .initialized RX5, .code yX5_begin cX5_begin 3 (some .int), .fieldLink RX5 80 "StateTypesModel" "opened" "I", .fieldLink RX5 32 "StateTypesModel" "open" "[I", .fieldLink RX5 35 "StateTypesModel" "inElse" "[Z", .methodLink RX5 76 yX5_add, .instanceMethod yX5_add, .selects RX5 yX5_add yX5_add, .code yX5_add cX5_add 4 (some .int), .fieldLink RX5 73 "StateTypesModel" "size" "I", .fieldLink RX5 17 "StateTypesModel" "kind" "[I", .fieldLink RX5 20 "StateTypesModel" "first" "[I", .fieldLink RX5 23 "StateTypesModel" "second" "[I"] ++ wsX50)
def wsX5_repeat : List Cond := .code yX5_repeat cX5_repeat 1 (some .int) :: ([.fieldLink RX5 66 "StateTypesModel" "thrown" "I", .methodLink RX5 83 yX5_begin, .instanceMethod yX5_begin, .selects RX5 yX5_begin yX5_begin, .initialized RX5, .code yX5_begin cX5_begin 3 (some .int), .fieldLink RX5 80 "StateTypesModel" "opened" "I", .fieldLink RX5 32 "StateTypesModel" "open" "[I", .fieldLink RX5 35 "StateTypesModel" "inElse" "[Z", .methodLink RX5 76 yX5_add, .instanceMethod yX5_add, .selects RX5 yX5_add yX5_add, .code yX5_add cX5_add 4 (some .int), .fieldLink RX5 73 "StateTypesModel" "size" "I", .fieldLink RX5 17 "StateTypesModel" "kind" "[I", .fieldLink RX5 20 "StateTypesModel" "first" "[I", .fieldLink RX5 23 "StateTypesModel" "second" "[I"] ++ wsX50)
def wsX5_otherwise : List Cond := .code yX5_otherwise cX5_otherwise 1 (some .boolean) :: ([.fieldLink RX5 66 "StateTypesModel" "thrown" "I", .fieldLink RX5 80 "StateTypesModel" "opened" "I", .fieldLink RX5 17 "StateTypesModel" "kind" "[I", .fieldLink RX5 32 "StateTypesModel" "open" "[I", .fieldLink RX5 35 "StateTypesModel" "inElse" "[Z", .fieldLink RX5 26 "StateTypesModel" "middle" "[I", .fieldLink RX5 73 "StateTypesModel" "size" "I"] ++ wsX50)
def wsX5_end : List Cond := .code yX5_end cX5_end 2 (some .boolean) :: ([.fieldLink RX5 66 "StateTypesModel" "thrown" "I", .fieldLink RX5 80 "StateTypesModel" "opened" "I", .fieldLink RX5 32 "StateTypesModel" "open" "[I", .fieldLink RX5 35 "StateTypesModel" "inElse" "[Z", .fieldLink RX5 26 "StateTypesModel" "middle" "[I", .fieldLink RX5 73 "StateTypesModel" "size" "I", .fieldLink RX5 29 "StateTypesModel" "behind" "[I"] ++ wsX50)
def wsX5_clear : List Cond := .code yX5_clear cX5_clear 1 none :: ([.fieldLink RX5 66 "StateTypesModel" "thrown" "I", .fieldLink RX5 73 "StateTypesModel" "size" "I", .fieldLink RX5 80 "StateTypesModel" "opened" "I"] ++ wsX50)
def wsX5_size : List Cond := .code yX5_size cX5_size 1 (some .int) :: ([.fieldLink RX5 66 "StateTypesModel" "thrown" "I", .fieldLink RX5 73 "StateTypesModel" "size" "I"] ++ wsX50)
def wsX5_work : List Cond := .code yX5_work cX5_work 6 (some .int) :: ([.fieldLink RX5 20 "StateTypesModel" "first" "[I", .fieldLink RX5 23 "StateTypesModel" "second" "[I", .fieldLink RX5 38 "StateTypesModel" "now" "[I", .fieldLink RX5 17 "StateTypesModel" "kind" "[I", .fieldLink RX5 7 "StateTypesModel" "leads" "[I", .fieldLink RX5 13 "StateTypesModel" "last" "[Z"] ++ wsX50)
def wsX5_unfinished : List Cond := .code yX5_unfinished cX5_unfinished 2 (some .boolean) :: ([.fieldLink RX5 38 "StateTypesModel" "now" "[I", .fieldLink RX5 13 "StateTypesModel" "last" "[Z"] ++ wsX50)
def wsX5_nothing : List Cond := .code yX5_nothing cX5_nothing 2 none :: ([.fieldLink RX5 38 "StateTypesModel" "now" "[I", .fieldLink RX5 87 "StateTypesModel" "piled" "I"] ++ wsX50)
def wsX5_same : List Cond := .code yX5_same cX5_same 4 (some .boolean) :: ([.fieldLink RX5 38 "StateTypesModel" "now" "[I"] ++ wsX50)
def wsX5_blockEnd : List Cond := .code yX5_blockEnd cX5_blockEnd 2 (some .int) :: ([.fieldLink RX5 47 "StateTypesModel" "pile" "[I", .fieldLink RX5 87 "StateTypesModel" "piled" "I", .fieldLink RX5 17 "StateTypesModel" "kind" "[I", .fieldLink RX5 50 "StateTypesModel" "other" "[Z", .fieldLink RX5 26 "StateTypesModel" "middle" "[I", .fieldLink RX5 29 "StateTypesModel" "behind" "[I"] ++ wsX50)
def wsX5_ended : List Cond := .code yX5_ended cX5_ended 4 (some .int) :: ([.fieldLink RX5 87 "StateTypesModel" "piled" "I", .fieldLink RX5 47 "StateTypesModel" "pile" "[I", .fieldLink RX5 17 "StateTypesModel" "kind" "[I", .fieldLink RX5 50 "StateTypesModel" "other" "[Z", .fieldLink RX5 56 "StateTypesModel" "after" "[I", .fieldLink RX5 38 "StateTypesModel" "now" "[I", .fieldLink RX5 53 "StateTypesModel" "before" "[I", .fieldLink RX5 59 "StateTypesModel" "place" "I", .methodLink RX5 90 yX5_same, .instanceMethod yX5_same, .selects RX5 yX5_same yX5_same, .initialized RX5, .code yX5_same cX5_same 4 (some .boolean)] ++ wsX50)
def wsX5_check_r1 : List Cond := [Cond.fieldLink RX5 66 "StateTypesModel" "thrown" "I", Cond.fieldLink RX5 94 "StateTypesModel" "checked" "Z", Cond.fieldLink RX5 44 "StateTypesModel" "held" "[I", Cond.fieldLink RX5 73 "StateTypesModel" "size" "I", Cond.fieldLink RX5 59 "StateTypesModel" "place" "I", Cond.fieldLink RX5 80 "StateTypesModel" "opened" "I", Cond.fieldLink RX5 87 "StateTypesModel" "piled" "I", Cond.fieldLink RX5 38 "StateTypesModel" "now" "[I", Cond.fieldLink RX5 17 "StateTypesModel" "kind" "[I", Cond.fieldLink RX5 53 "StateTypesModel" "before" "[I", Cond.fieldLink RX5 47 "StateTypesModel" "pile" "[I", Cond.fieldLink RX5 50 "StateTypesModel" "other" "[Z", Cond.methodLink RX5 98 yX5_nothing, Cond.instanceMethod yX5_nothing, Cond.selects RX5 yX5_nothing yX5_nothing, Cond.initialized RX5, Cond.code yX5_nothing cX5_nothing 2 none, Cond.methodLink RX5 101 yX5_blockEnd, Cond.instanceMethod yX5_blockEnd, Cond.selects RX5 yX5_blockEnd yX5_blockEnd, Cond.code yX5_blockEnd cX5_blockEnd 2 (some .int), Cond.fieldLink RX5 26 "StateTypesModel" "middle" "[I", Cond.fieldLink RX5 29 "StateTypesModel" "behind" "[I", Cond.methodLink RX5 105 yX5_ended]
def wsX5_check_r2 : List Cond := [Cond.instanceMethod yX5_ended, Cond.selects RX5 yX5_ended yX5_ended, Cond.code yX5_ended cX5_ended 4 (some .int), Cond.fieldLink RX5 56 "StateTypesModel" "after" "[I", Cond.methodLink RX5 90 yX5_same, Cond.instanceMethod yX5_same, Cond.selects RX5 yX5_same yX5_same, Cond.code yX5_same cX5_same 4 (some .boolean), Cond.methodLink RX5 108 yX5_work, Cond.instanceMethod yX5_work, Cond.selects RX5 yX5_work yX5_work, Cond.code yX5_work cX5_work 6 (some .int), Cond.fieldLink RX5 20 "StateTypesModel" "first" "[I", Cond.fieldLink RX5 23 "StateTypesModel" "second" "[I", Cond.fieldLink RX5 7 "StateTypesModel" "leads" "[I", Cond.fieldLink RX5 13 "StateTypesModel" "last" "[Z", Cond.methodLink RX5 111 yX5_unfinished, Cond.instanceMethod yX5_unfinished, Cond.selects RX5 yX5_unfinished yX5_unfinished, Cond.code yX5_unfinished cX5_unfinished 2 (some .boolean)]
def wsX5_check : List Cond := .code yX5_check cX5_check 5 (some .int) :: ((wsX5_check_r1 ++ wsX5_check_r2) ++ wsX50)
def wsX5_faultAt : List Cond := .code yX5_faultAt cX5_faultAt 1 (some .int) :: ([.fieldLink RX5 66 "StateTypesModel" "thrown" "I", .fieldLink RX5 94 "StateTypesModel" "checked" "Z", .fieldLink RX5 59 "StateTypesModel" "place" "I"] ++ wsX50)
def wsX5_held : List Cond := .code yX5_held cX5_held 3 (some .int) :: ([.fieldLink RX5 66 "StateTypesModel" "thrown" "I", .fieldLink RX5 94 "StateTypesModel" "checked" "Z", .fieldLink RX5 44 "StateTypesModel" "held" "[I", .methodLink RX5 69 yX5_within, .static yX5_within, .initialized RX5, .code yX5_within cX5_within 2 (some .boolean)] ++ wsX50)
def wsX5_run_r1 : List Cond := [Cond.fieldLink RX5 66 "StateTypesModel" "thrown" "I", Cond.fieldLink RX5 80 "StateTypesModel" "opened" "I", Cond.fieldLink RX5 115 "StateTypesModel" "steps" "I", Cond.fieldLink RX5 118 "StateTypesModel" "runFault" "I", Cond.fieldLink RX5 63 "StateTypesModel" "runPlace" "I", Cond.fieldLink RX5 73 "StateTypesModel" "size" "I", Cond.fieldLink RX5 87 "StateTypesModel" "piled" "I", Cond.fieldLink RX5 47 "StateTypesModel" "pile" "[I", Cond.fieldLink RX5 17 "StateTypesModel" "kind" "[I", Cond.fieldLink RX5 29 "StateTypesModel" "behind" "[I", Cond.fieldLink RX5 50 "StateTypesModel" "other" "[Z", Cond.fieldLink RX5 26 "StateTypesModel" "middle" "[I", Cond.fieldLink RX5 41 "StateTypesModel" "left" "[I", Cond.fieldLink RX5 38 "StateTypesModel" "now" "[I", Cond.methodLink RX5 98 yX5_nothing, Cond.instanceMethod yX5_nothing, Cond.selects RX5 yX5_nothing yX5_nothing, Cond.initialized RX5, Cond.code yX5_nothing cX5_nothing 2 none, Cond.methodLink RX5 101 yX5_blockEnd, Cond.instanceMethod yX5_blockEnd, Cond.selects RX5 yX5_blockEnd yX5_blockEnd, Cond.code yX5_blockEnd cX5_blockEnd 2 (some .int), Cond.methodLink RX5 108 yX5_work]
def wsX5_run_r2 : List Cond := [Cond.instanceMethod yX5_work, Cond.selects RX5 yX5_work yX5_work, Cond.code yX5_work cX5_work 6 (some .int), Cond.fieldLink RX5 20 "StateTypesModel" "first" "[I", Cond.fieldLink RX5 23 "StateTypesModel" "second" "[I", Cond.fieldLink RX5 7 "StateTypesModel" "leads" "[I", Cond.fieldLink RX5 13 "StateTypesModel" "last" "[Z", Cond.methodLink RX5 111 yX5_unfinished, Cond.instanceMethod yX5_unfinished, Cond.selects RX5 yX5_unfinished yX5_unfinished, Cond.code yX5_unfinished cX5_unfinished 2 (some .boolean)]
def wsX5_run : List Cond := .code yX5_run cX5_run 8 (some .int) :: ((wsX5_run_r1 ++ wsX5_run_r2) ++ wsX50)
def wsX5_runFault : List Cond := .code yX5_runFault cX5_runFault 1 (some .int) :: ([.fieldLink RX5 66 "StateTypesModel" "thrown" "I", .fieldLink RX5 118 "StateTypesModel" "runFault" "I"] ++ wsX50)
def wsX5_runAt : List Cond := .code yX5_runAt cX5_runAt 1 (some .int) :: ([.fieldLink RX5 66 "StateTypesModel" "thrown" "I", .fieldLink RX5 63 "StateTypesModel" "runPlace" "I"] ++ wsX50)
def wsX5_steps : List Cond := .code yX5_steps cX5_steps 1 (some .int) :: ([.fieldLink RX5 66 "StateTypesModel" "thrown" "I", .fieldLink RX5 115 "StateTypesModel" "steps" "I"] ++ wsX50)
def wsX5_left : List Cond := .code yX5_left cX5_left 2 (some .int) :: ([.fieldLink RX5 66 "StateTypesModel" "thrown" "I", .fieldLink RX5 41 "StateTypesModel" "left" "[I", .methodLink RX5 69 yX5_within, .static yX5_within, .initialized RX5, .code yX5_within cX5_within 2 (some .boolean)] ++ wsX50)
def wsL_run_r1 : List Cond := [Cond.classLink RL 13 "java/lang/IllegalArgumentException", Cond.classLink RL 15 "java/lang/IllegalStateException", Cond.methodLink RL 7 yX4_run, Cond.instanceMethod yX4_run, Cond.selects RX4 yX4_run yX4_run, Cond.initialized RX4, Cond.code yX4_run cX4_run 3 (some .int), Cond.classLink RX4 97 "java/lang/IllegalArgumentException", Cond.initialized "java/lang/IllegalArgumentException", Cond.classLink RX4 116 "java/lang/IllegalStateException", Cond.initialized "java/lang/IllegalStateException", Cond.fieldLink RX4 19 "StateTypes" "program" "LStateTypes$Program;", Cond.fieldLink RX4 35 "StateTypes" "running" "LStateTypes$Running;", Cond.methodLink RX4 104 yX1_hasOpenBlocks, Cond.instanceMethod yX1_hasOpenBlocks, Cond.selects RX1 yX1_hasOpenBlocks yX1_hasOpenBlocks, Cond.initialized RX1, Cond.code yX1_hasOpenBlocks cX1_hasOpenBlocks 1 (some .boolean), Cond.fieldLink RX1 37 "StateTypes$Program" "openBlocks" "I", Cond.methodLink RX4 109 yX3_runProgram, Cond.instanceMethod yX3_runProgram, Cond.selects RX3 yX3_runProgram yX3_runProgram, Cond.initialized RX3, Cond.code yX3_runProgram cX3_runProgram 5 none]
def wsL_run_r2 : List Cond := [Cond.fieldLink RX3 19 "StateTypes$Running" "fault" "I", Cond.fieldLink RX3 23 "StateTypes$Running" "place" "I", Cond.fieldLink RX3 29 "StateTypes$Running" "stepsDone" "I", Cond.fieldLink RX3 26 "StateTypes$Running" "all" "I", Cond.fieldLink RX3 32 "StateTypes$Running" "bits" "I", Cond.fieldLink RX3 35 "StateTypes$Running" "bitsLeft" "I", Cond.constant RX3 38 (1000000), Cond.fieldLink RX3 9 "StateTypes$Running" "program" "LStateTypes$Program;", Cond.fieldLink RX3 15 "StateTypes$Running" "protocols" "LStateTypes$Protocols;", Cond.methodLink RX3 39 yX1_hasEntry, Cond.instanceMethod yX1_hasEntry, Cond.selects RX1 yX1_hasEntry yX1_hasEntry, Cond.code yX1_hasEntry cX1_hasEntry 2 (some .boolean), Cond.fieldLink RX1 30 "StateTypes$Program" "entries" "I", Cond.static yX4_isBelow, Cond.code yX4_isBelow cX4_isBelow 2 (some .boolean), Cond.methodLink RX3 45 yX3_doEntry, Cond.instanceMethod yX3_doEntry, Cond.selects RX3 yX3_doEntry yX3_doEntry, Cond.code yX3_doEntry cX3_doEntry 2 (some .int), Cond.methodLink RX3 61 yX3_takeBit, Cond.instanceMethod yX3_takeBit, Cond.selects RX3 yX3_takeBit yX3_takeBit, Cond.code yX3_takeBit cX3_takeBit 2 (some .boolean)]
def wsL_run_r3 : List Cond := [Cond.methodLink RX3 68 yX3_doSimple, Cond.instanceMethod yX3_doSimple, Cond.selects RX3 yX3_doSimple yX3_doSimple, Cond.code yX3_doSimple cX3_doSimple 3 none, Cond.methodLink RX3 72 yX1_afterSimple, Cond.instanceMethod yX1_afterSimple, Cond.selects RX1 yX1_afterSimple yX1_afterSimple, Cond.code yX1_afterSimple cX1_afterSimple 8 (some .int), Cond.fieldLink RX1 18 "StateTypes$Program" "firsts" "[I", Cond.fieldLink RX1 21 "StateTypes$Program" "seconds" "[I", Cond.fieldLink RX1 9 "StateTypes$Program" "kinds" "[I", Cond.methodLink RX1 52 yX1_hasEntry, Cond.static yX4_heldBy, Cond.code yX4_heldBy cX4_heldBy 2 (some .int), Cond.static yX4_objectOf, Cond.code yX4_objectOf cX4_objectOf 2 (some .int), Cond.static yX4_withHeld, Cond.code yX4_withHeld cX4_withHeld 4 (some .int), Cond.methodLink RX1 71 yX2_targetOf, Cond.instanceMethod yX2_targetOf, Cond.selects RX2 yX2_targetOf yX2_targetOf, Cond.initialized RX2, Cond.code yX2_targetOf cX2_targetOf 3 (some .int), Cond.fieldLink RX2 9 "StateTypes$Protocols" "targets" "[I"]
def wsL_run_r4 : List Cond := [Cond.static yX4_protocolOf, Cond.code yX4_protocolOf cX4_protocolOf 1 (some .int), Cond.methodLink RX1 80 yX2_mayBeLeft, Cond.instanceMethod yX2_mayBeLeft, Cond.selects RX2 yX2_mayBeLeft yX2_mayBeLeft, Cond.code yX2_mayBeLeft cX2_mayBeLeft 2 (some .boolean), Cond.fieldLink RX2 15 "StateTypes$Protocols" "finals" "[Z", Cond.methodLink RX3 49 yX2_faultOfLeaving, Cond.instanceMethod yX2_faultOfLeaving, Cond.selects RX2 yX2_faultOfLeaving yX2_faultOfLeaving, Cond.code yX2_faultOfLeaving cX2_faultOfLeaving 4 (some .int), Cond.methodLink RX2 33 yX2_mayBeLeft]
def wsL_run : List Cond := .codeWith yL_run cL_run 5 (some .int) [(0, 10, 13, 13), (0, 10, 17, 15)] :: ((wsL_run_r1 ++ (wsL_run_r2 ++ (wsL_run_r3 ++ wsL_run_r4))) ++ wsX40 ++ wsX30 ++ wsX10 ++ wsX20 ++ (vx_atS RX4 101 "java/lang/IllegalArgumentException" ["java/lang/RuntimeException", "java/lang/Exception"]).filter goodWord ++ (vx_atS RX4 120 "java/lang/IllegalStateException" ["java/lang/RuntimeException", "java/lang/Exception"]).filter goodWord)
def wsL_law0_r1 : List Cond := [Cond.classLink RL 8 RX4, Cond.instantiable RX4 4, Cond.initialized RX4, Cond.classLink RL 18 RX5, Cond.instantiable RX5 25, Cond.initialized RX5, Cond.arrayClass .long, Cond.methodLink RL 17 yX4_init, Cond.instanceMethod yX4_init, Cond.code yX4_init cX4_init 1 none, Cond.methodLink RX4 3 objectInit, Cond.instanceMethod objectInit, Cond.code objectInit ⟨#[0xb1]⟩ 1 none, Cond.classLink RX4 9 RX2, Cond.instantiable RX2 2, Cond.initialized RX2, Cond.fieldLink RX4 12 "StateTypes" "protocols" "LStateTypes$Protocols;", Cond.classLink RX4 16 RX1, Cond.instantiable RX1 9, Cond.initialized RX1, Cond.fieldLink RX4 19 "StateTypes" "program" "LStateTypes$Program;", Cond.classLink RX4 23 RX0, Cond.instantiable RX0 5, Cond.initialized RX0]
def wsL_law0_r2 : List Cond := [Cond.fieldLink RX4 28 "StateTypes" "checking" "LStateTypes$Checking;", Cond.classLink RX4 32 RX3, Cond.instantiable RX3 8, Cond.initialized RX3, Cond.fieldLink RX4 35 "StateTypes" "running" "LStateTypes$Running;", Cond.methodLink RX4 11 yX2_init, Cond.instanceMethod yX2_init, Cond.code yX2_init cX2_init 1 none, Cond.methodLink RX2 3 objectInit, Cond.arrayClass .int, Cond.fieldLink RX2 9 "StateTypes$Protocols" "targets" "[I", Cond.arrayClass .boolean, Cond.fieldLink RX2 15 "StateTypes$Protocols" "finals" "[Z", Cond.methodLink RX2 19 yJ7_fill_53178, Cond.static yJ7_fill_53178, Cond.initialized RJ7, Cond.code yJ7_fill_53178 cJ7_fill_53178 4 none, Cond.methodLink RX4 18 yX1_init, Cond.instanceMethod yX1_init, Cond.code yX1_init cX1_init 1 none, Cond.methodLink RX1 3 objectInit, Cond.fieldLink RX1 9 "StateTypes$Program" "kinds" "[I", Cond.fieldLink RX1 15 "StateTypes$Program" "numbers" "[I", Cond.fieldLink RX1 18 "StateTypes$Program" "firsts" "[I"]
def wsL_law0_r3 : List Cond := [Cond.fieldLink RX1 21 "StateTypes$Program" "seconds" "[I", Cond.fieldLink RX1 24 "StateTypes$Program" "jumps" "[I", Cond.fieldLink RX1 27 "StateTypes$Program" "open" "[I", Cond.methodLink RX4 25 yX0_init, Cond.instanceMethod yX0_init, Cond.code yX0_init cX0_init 3 none, Cond.methodLink RX0 3 objectInit, Cond.fieldLink RX0 9 "StateTypes$Checking" "program" "LStateTypes$Program;", Cond.fieldLink RX0 15 "StateTypes$Checking" "protocols" "LStateTypes$Protocols;", Cond.fieldLink RX0 19 "StateTypes$Checking" "before" "[I", Cond.fieldLink RX0 23 "StateTypes$Checking" "afterThen" "[I", Cond.fieldLink RX0 26 "StateTypes$Checking" "place" "I", Cond.methodLink RX0 30 yJ7_fill_53178, Cond.methodLink RX4 34 yX3_init, Cond.instanceMethod yX3_init, Cond.code yX3_init cX3_init 3 none, Cond.methodLink RX3 3 objectInit, Cond.fieldLink RX3 9 "StateTypes$Running" "program" "LStateTypes$Program;", Cond.fieldLink RX3 15 "StateTypes$Running" "protocols" "LStateTypes$Protocols;", Cond.fieldLink RX3 19 "StateTypes$Running" "fault" "I", Cond.fieldLink RX3 23 "StateTypes$Running" "place" "I", Cond.fieldLink RX3 26 "StateTypes$Running" "all" "I", Cond.methodLink RL 20 yX5_init, Cond.instanceMethod yX5_init]
def wsL_law0_r4 : List Cond := [Cond.code yX5_init cX5_init 2 none, Cond.methodLink RX5 1 objectInit, Cond.fieldLink RX5 7 "StateTypesModel" "leads" "[I", Cond.fieldLink RX5 13 "StateTypesModel" "last" "[Z", Cond.fieldLink RX5 17 "StateTypesModel" "kind" "[I", Cond.fieldLink RX5 20 "StateTypesModel" "first" "[I", Cond.fieldLink RX5 23 "StateTypesModel" "second" "[I", Cond.fieldLink RX5 26 "StateTypesModel" "middle" "[I", Cond.fieldLink RX5 29 "StateTypesModel" "behind" "[I", Cond.fieldLink RX5 32 "StateTypesModel" "open" "[I", Cond.fieldLink RX5 35 "StateTypesModel" "inElse" "[Z", Cond.fieldLink RX5 38 "StateTypesModel" "now" "[I", Cond.fieldLink RX5 41 "StateTypesModel" "left" "[I", Cond.fieldLink RX5 44 "StateTypesModel" "held" "[I", Cond.fieldLink RX5 47 "StateTypesModel" "pile" "[I", Cond.fieldLink RX5 50 "StateTypesModel" "other" "[Z", Cond.fieldLink RX5 53 "StateTypesModel" "before" "[I", Cond.fieldLink RX5 56 "StateTypesModel" "after" "[I", Cond.fieldLink RX5 59 "StateTypesModel" "place" "I", Cond.fieldLink RX5 63 "StateTypesModel" "runPlace" "I", Cond.methodLink RL 21 yX4_lead, Cond.instanceMethod yX4_lead, Cond.selects RX4 yX4_lead yX4_lead, Cond.code yX4_lead cX4_lead 6 (some .boolean)]
def wsL_law0_r5 : List Cond := [Cond.methodLink RX4 39 yX4_isState, Cond.static yX4_isState, Cond.code yX4_isState cX4_isState 2 (some .boolean), Cond.methodLink RX4 43 yX4_isBelow, Cond.static yX4_isBelow, Cond.code yX4_isBelow cX4_isBelow 2 (some .boolean), Cond.methodLink RX4 46 yX4_objectOf, Cond.static yX4_objectOf, Cond.code yX4_objectOf cX4_objectOf 2 (some .int), Cond.methodLink RX4 50 yX2_setTarget, Cond.instanceMethod yX2_setTarget, Cond.selects RX2 yX2_setTarget yX2_setTarget, Cond.code yX2_setTarget cX2_setTarget 5 (some .boolean), Cond.methodLink RL 25 yX5_lead, Cond.instanceMethod yX5_lead, Cond.selects RX5 yX5_lead yX5_lead, Cond.code yX5_lead cX5_lead 5 (some .boolean), Cond.fieldLink RX5 66 "StateTypesModel" "thrown" "I", Cond.methodLink RX5 69 yX5_within, Cond.static yX5_within, Cond.code yX5_within cX5_within 2 (some .boolean), Cond.methodLink RL 26 yX4_mark, Cond.instanceMethod yX4_mark, Cond.selects RX4 yX4_mark yX4_mark]
def wsL_law0_r6 : List Cond := [Cond.code yX4_mark cX4_mark 4 (some .boolean), Cond.methodLink RX4 54 yX2_setFinal, Cond.instanceMethod yX2_setFinal, Cond.selects RX2 yX2_setFinal yX2_setFinal, Cond.code yX2_setFinal cX2_setFinal 4 (some .boolean), Cond.methodLink RL 30 yX5_mark, Cond.instanceMethod yX5_mark, Cond.selects RX5 yX5_mark yX5_mark, Cond.code yX5_mark cX5_mark 4 (some .boolean), Cond.methodLink RL 31 yX4_make, Cond.instanceMethod yX4_make, Cond.selects RX4 yX4_make yX4_make, Cond.code yX4_make cX4_make 3 (some .int), Cond.methodLink RX4 58 yX4_isVariable, Cond.static yX4_isVariable, Cond.code yX4_isVariable cX4_isVariable 1 (some .boolean), Cond.methodLink RX4 62 yX1_addSimple, Cond.instanceMethod yX1_addSimple, Cond.selects RX1 yX1_addSimple yX1_addSimple, Cond.code yX1_addSimple cX1_addSimple 4 (some .int), Cond.fieldLink RX1 34 "StateTypes$Program" "statements" "I", Cond.methodLink RX1 44 yX1_addEntry, Cond.instanceMethod yX1_addEntry, Cond.selects RX1 yX1_addEntry yX1_addEntry]
def wsL_law0_r7 : List Cond := [Cond.code yX1_addEntry cX1_addEntry 5 none, Cond.fieldLink RX1 30 "StateTypes$Program" "entries" "I", Cond.methodLink RL 34 yX5_make, Cond.instanceMethod yX5_make, Cond.selects RX5 yX5_make yX5_make, Cond.code yX5_make cX5_make 3 (some .int), Cond.methodLink RX5 76 yX5_add, Cond.instanceMethod yX5_add, Cond.selects RX5 yX5_add yX5_add, Cond.code yX5_add cX5_add 4 (some .int), Cond.fieldLink RX5 73 "StateTypesModel" "size" "I", Cond.methodLink RL 35 yX4_call, Cond.instanceMethod yX4_call, Cond.selects RX4 yX4_call yX4_call, Cond.code yX4_call cX4_call 3 (some .int), Cond.methodLink RL 38 yX5_call, Cond.instanceMethod yX5_call, Cond.selects RX5 yX5_call yX5_call, Cond.code yX5_call cX5_call 3 (some .int), Cond.methodLink RL 39 yX4_move, Cond.instanceMethod yX4_move, Cond.selects RX4 yX4_move yX4_move, Cond.code yX4_move cX4_move 3 (some .int), Cond.methodLink RL 42 yX5_move]
def wsL_law0_r8 : List Cond := [Cond.instanceMethod yX5_move, Cond.selects RX5 yX5_move yX5_move, Cond.code yX5_move cX5_move 3 (some .int), Cond.methodLink RL 43 yX4_drop, Cond.instanceMethod yX4_drop, Cond.selects RX4 yX4_drop yX4_drop, Cond.code yX4_drop cX4_drop 2 (some .int), Cond.methodLink RL 47 yX5_drop, Cond.instanceMethod yX5_drop, Cond.selects RX5 yX5_drop yX5_drop, Cond.code yX5_drop cX5_drop 2 (some .int), Cond.methodLink RL 48 yX4_choose, Cond.instanceMethod yX4_choose, Cond.selects RX4 yX4_choose yX4_choose, Cond.code yX4_choose cX4_choose 1 (some .int), Cond.methodLink RX4 66 yX1_addOpening, Cond.instanceMethod yX1_addOpening, Cond.selects RX1 yX1_addOpening yX1_addOpening, Cond.code yX1_addOpening cX1_addOpening 2 (some .int), Cond.fieldLink RX1 37 "StateTypes$Program" "openBlocks" "I", Cond.methodLink RL 52 yX5_choose, Cond.instanceMethod yX5_choose, Cond.selects RX5 yX5_choose yX5_choose, Cond.code yX5_choose cX5_choose 1 (some .int)]
def wsL_law0_r9 : List Cond := [Cond.methodLink RX5 83 yX5_begin, Cond.instanceMethod yX5_begin, Cond.selects RX5 yX5_begin yX5_begin, Cond.code yX5_begin cX5_begin 3 (some .int), Cond.fieldLink RX5 80 "StateTypesModel" "opened" "I", Cond.methodLink RL 53 yX4_otherwise, Cond.instanceMethod yX4_otherwise, Cond.selects RX4 yX4_otherwise yX4_otherwise, Cond.code yX4_otherwise cX4_otherwise 1 (some .boolean), Cond.methodLink RX4 70 yX1_beginElse, Cond.instanceMethod yX1_beginElse, Cond.selects RX1 yX1_beginElse yX1_beginElse, Cond.code yX1_beginElse cX1_beginElse 2 (some .boolean), Cond.methodLink RX1 48 yX1_lastOpened, Cond.instanceMethod yX1_lastOpened, Cond.selects RX1 yX1_lastOpened yX1_lastOpened, Cond.code yX1_lastOpened cX1_lastOpened 1 (some .int), Cond.methodLink RX1 52 yX1_hasEntry, Cond.instanceMethod yX1_hasEntry, Cond.selects RX1 yX1_hasEntry yX1_hasEntry, Cond.code yX1_hasEntry cX1_hasEntry 2 (some .boolean), Cond.methodLink RL 57 yX5_otherwise, Cond.instanceMethod yX5_otherwise, Cond.selects RX5 yX5_otherwise yX5_otherwise]
def wsL_law0_r10 : List Cond := [Cond.code yX5_otherwise cX5_otherwise 1 (some .boolean), Cond.methodLink RL 58 yX4_repeat, Cond.instanceMethod yX4_repeat, Cond.selects RX4 yX4_repeat yX4_repeat, Cond.code yX4_repeat cX4_repeat 1 (some .int), Cond.methodLink RL 61 yX5_repeat, Cond.instanceMethod yX5_repeat, Cond.selects RX5 yX5_repeat yX5_repeat, Cond.code yX5_repeat cX5_repeat 1 (some .int), Cond.methodLink RL 62 yX4_end, Cond.instanceMethod yX4_end, Cond.selects RX4 yX4_end yX4_end, Cond.code yX4_end cX4_end 1 (some .boolean), Cond.methodLink RX4 74 yX1_endBlock, Cond.instanceMethod yX1_endBlock, Cond.selects RX1 yX1_endBlock yX1_endBlock, Cond.code yX1_endBlock cX1_endBlock 3 (some .boolean), Cond.methodLink RX1 56 yX1_beginElse, Cond.methodLink RL 65 yX5_end, Cond.instanceMethod yX5_end, Cond.selects RX5 yX5_end yX5_end, Cond.code yX5_end cX5_end 2 (some .boolean), Cond.methodLink RL 66 yX4_clear, Cond.instanceMethod yX4_clear]
def wsL_law0_r11 : List Cond := [Cond.selects RX4 yX4_clear yX4_clear, Cond.code yX4_clear cX4_clear 1 none, Cond.methodLink RX4 77 yX1_removeAll, Cond.instanceMethod yX1_removeAll, Cond.selects RX1 yX1_removeAll yX1_removeAll, Cond.code yX1_removeAll cX1_removeAll 1 none, Cond.methodLink RL 69 yX5_clear, Cond.instanceMethod yX5_clear, Cond.selects RX5 yX5_clear yX5_clear, Cond.code yX5_clear cX5_clear 1 none, Cond.methodLink RL 70 yX4_size, Cond.instanceMethod yX4_size, Cond.selects RX4 yX4_size yX4_size, Cond.code yX4_size cX4_size 1 (some .int), Cond.methodLink RL 73 yX5_size, Cond.instanceMethod yX5_size, Cond.selects RX5 yX5_size yX5_size, Cond.code yX5_size cX5_size 1 (some .int), Cond.methodLink RL 74 yX4_check, Cond.instanceMethod yX4_check, Cond.selects RX4 yX4_check yX4_check, Cond.code yX4_check cX4_check 1 (some .int), Cond.methodLink RX4 84 yX0_checkProgram, Cond.instanceMethod yX0_checkProgram]
def wsL_law0_r12 : List Cond := [Cond.selects RX0 yX0_checkProgram yX0_checkProgram, Cond.code yX0_checkProgram cX0_checkProgram 4 (some .int), Cond.methodLink RX0 45 yX1_hasOpenBlocks, Cond.instanceMethod yX1_hasOpenBlocks, Cond.selects RX1 yX1_hasOpenBlocks yX1_hasOpenBlocks, Cond.code yX1_hasOpenBlocks cX1_hasOpenBlocks 1 (some .boolean), Cond.methodLink RX0 52 yX0_afterEntry, Cond.instanceMethod yX0_afterEntry, Cond.selects RX0 yX0_afterEntry yX0_afterEntry, Cond.code yX0_afterEntry cX0_afterEntry 4 (some .int), Cond.methodLink RX0 65 yX1_hasEntry, Cond.methodLink RX0 72 yX1_afterSimple, Cond.instanceMethod yX1_afterSimple, Cond.selects RX1 yX1_afterSimple yX1_afterSimple, Cond.code yX1_afterSimple cX1_afterSimple 8 (some .int), Cond.static yX4_heldBy, Cond.code yX4_heldBy cX4_heldBy 2 (some .int), Cond.static yX4_withHeld, Cond.code yX4_withHeld cX4_withHeld 4 (some .int), Cond.methodLink RX1 71 yX2_targetOf, Cond.instanceMethod yX2_targetOf, Cond.selects RX2 yX2_targetOf yX2_targetOf, Cond.code yX2_targetOf cX2_targetOf 3 (some .int), Cond.static yX4_protocolOf]
def wsL_law0_r13 : List Cond := [Cond.code yX4_protocolOf cX4_protocolOf 1 (some .int), Cond.methodLink RX1 80 yX2_mayBeLeft, Cond.instanceMethod yX2_mayBeLeft, Cond.selects RX2 yX2_mayBeLeft yX2_mayBeLeft, Cond.code yX2_mayBeLeft cX2_mayBeLeft 2 (some .boolean), Cond.methodLink RX0 59 yX2_faultOfLeaving, Cond.instanceMethod yX2_faultOfLeaving, Cond.selects RX2 yX2_faultOfLeaving yX2_faultOfLeaving, Cond.code yX2_faultOfLeaving cX2_faultOfLeaving 4 (some .int), Cond.methodLink RX2 33 yX2_mayBeLeft, Cond.methodLink RL 77 yX5_check, Cond.instanceMethod yX5_check, Cond.selects RX5 yX5_check yX5_check, Cond.code yX5_check cX5_check 5 (some .int), Cond.fieldLink RX5 94 "StateTypesModel" "checked" "Z", Cond.fieldLink RX5 87 "StateTypesModel" "piled" "I", Cond.methodLink RX5 98 yX5_nothing, Cond.instanceMethod yX5_nothing, Cond.selects RX5 yX5_nothing yX5_nothing, Cond.code yX5_nothing cX5_nothing 2 none, Cond.methodLink RX5 101 yX5_blockEnd, Cond.instanceMethod yX5_blockEnd, Cond.selects RX5 yX5_blockEnd yX5_blockEnd, Cond.code yX5_blockEnd cX5_blockEnd 2 (some .int)]
def wsL_law0_r14 : List Cond := [Cond.methodLink RX5 105 yX5_ended, Cond.instanceMethod yX5_ended, Cond.selects RX5 yX5_ended yX5_ended, Cond.code yX5_ended cX5_ended 4 (some .int), Cond.methodLink RX5 90 yX5_same, Cond.instanceMethod yX5_same, Cond.selects RX5 yX5_same yX5_same, Cond.code yX5_same cX5_same 4 (some .boolean), Cond.methodLink RX5 108 yX5_work, Cond.instanceMethod yX5_work, Cond.selects RX5 yX5_work yX5_work, Cond.code yX5_work cX5_work 6 (some .int), Cond.methodLink RX5 111 yX5_unfinished, Cond.instanceMethod yX5_unfinished, Cond.selects RX5 yX5_unfinished yX5_unfinished, Cond.code yX5_unfinished cX5_unfinished 2 (some .boolean), Cond.methodLink RL 78 yX4_faultAt, Cond.instanceMethod yX4_faultAt, Cond.selects RX4 yX4_faultAt yX4_faultAt, Cond.code yX4_faultAt cX4_faultAt 1 (some .int), Cond.methodLink RL 81 yX5_faultAt, Cond.instanceMethod yX5_faultAt, Cond.selects RX5 yX5_faultAt yX5_faultAt, Cond.code yX5_faultAt cX5_faultAt 1 (some .int)]
def wsL_law0_r15 : List Cond := [Cond.methodLink RL 82 yX4_held, Cond.instanceMethod yX4_held, Cond.selects RX4 yX4_held yX4_held, Cond.code yX4_held cX4_held 4 (some .int), Cond.methodLink RX4 91 yX0_heldBefore, Cond.instanceMethod yX0_heldBefore, Cond.selects RX0 yX0_heldBefore yX0_heldBefore, Cond.code yX0_heldBefore cX0_heldBefore 2 (some .int), Cond.methodLink RX4 94 yX4_heldBy, Cond.methodLink RL 85 yX5_held, Cond.instanceMethod yX5_held, Cond.selects RX5 yX5_held yX5_held, Cond.code yX5_held cX5_held 3 (some .int), Cond.methodLink RL 86 yL_run, Cond.static yL_run, Cond.initialized RL, Cond.codeWith yL_run cL_run 5 (some .int) [(0, 10, 13, 13), (0, 10, 17, 15)], Cond.classLink RL 13 "java/lang/IllegalArgumentException", Cond.classLink RL 15 "java/lang/IllegalStateException", Cond.methodLink RL 7 yX4_run, Cond.instanceMethod yX4_run, Cond.selects RX4 yX4_run yX4_run, Cond.code yX4_run cX4_run 3 (some .int), Cond.classLink RX4 97 "java/lang/IllegalArgumentException"]
def wsL_law0_r16 : List Cond := [Cond.initialized "java/lang/IllegalArgumentException", Cond.classLink RX4 116 "java/lang/IllegalStateException", Cond.initialized "java/lang/IllegalStateException", Cond.methodLink RX4 104 yX1_hasOpenBlocks, Cond.methodLink RX4 109 yX3_runProgram, Cond.instanceMethod yX3_runProgram, Cond.selects RX3 yX3_runProgram yX3_runProgram, Cond.code yX3_runProgram cX3_runProgram 5 none, Cond.fieldLink RX3 29 "StateTypes$Running" "stepsDone" "I", Cond.fieldLink RX3 32 "StateTypes$Running" "bits" "I", Cond.fieldLink RX3 35 "StateTypes$Running" "bitsLeft" "I", Cond.constant RX3 38 (1000000), Cond.methodLink RX3 39 yX1_hasEntry, Cond.methodLink RX3 45 yX3_doEntry, Cond.instanceMethod yX3_doEntry, Cond.selects RX3 yX3_doEntry yX3_doEntry, Cond.code yX3_doEntry cX3_doEntry 2 (some .int), Cond.methodLink RX3 61 yX3_takeBit, Cond.instanceMethod yX3_takeBit, Cond.selects RX3 yX3_takeBit yX3_takeBit, Cond.code yX3_takeBit cX3_takeBit 2 (some .boolean), Cond.methodLink RX3 68 yX3_doSimple, Cond.instanceMethod yX3_doSimple, Cond.selects RX3 yX3_doSimple yX3_doSimple]
def wsL_law0_r17 : List Cond := [Cond.code yX3_doSimple cX3_doSimple 3 none, Cond.methodLink RX3 72 yX1_afterSimple, Cond.methodLink RX3 49 yX2_faultOfLeaving, Cond.methodLink RL 91 yX5_run, Cond.instanceMethod yX5_run, Cond.selects RX5 yX5_run yX5_run, Cond.code yX5_run cX5_run 8 (some .int), Cond.fieldLink RX5 115 "StateTypesModel" "steps" "I", Cond.fieldLink RX5 118 "StateTypesModel" "runFault" "I", Cond.methodLink RL 92 yX5_thrown, Cond.instanceMethod yX5_thrown, Cond.selects RX5 yX5_thrown yX5_thrown, Cond.code yX5_thrown cX5_thrown 1 (some .int), Cond.methodLink RL 95 yX4_runFault, Cond.instanceMethod yX4_runFault, Cond.selects RX4 yX4_runFault yX4_runFault, Cond.code yX4_runFault cX4_runFault 1 (some .int), Cond.methodLink RL 98 yX5_runFault, Cond.instanceMethod yX5_runFault, Cond.selects RX5 yX5_runFault yX5_runFault, Cond.code yX5_runFault cX5_runFault 1 (some .int), Cond.methodLink RL 99 yX4_runAt, Cond.instanceMethod yX4_runAt, Cond.selects RX4 yX4_runAt yX4_runAt]
def wsL_law0_r18 : List Cond := [Cond.code yX4_runAt cX4_runAt 1 (some .int), Cond.methodLink RL 102 yX5_runAt, Cond.instanceMethod yX5_runAt, Cond.selects RX5 yX5_runAt yX5_runAt, Cond.code yX5_runAt cX5_runAt 1 (some .int), Cond.methodLink RL 103 yX4_steps, Cond.instanceMethod yX4_steps, Cond.selects RX4 yX4_steps yX4_steps, Cond.code yX4_steps cX4_steps 1 (some .int), Cond.methodLink RL 106 yX5_steps, Cond.instanceMethod yX5_steps, Cond.selects RX5 yX5_steps yX5_steps, Cond.code yX5_steps cX5_steps 1 (some .int), Cond.methodLink RL 107 yX4_left, Cond.instanceMethod yX4_left, Cond.selects RX4 yX4_left yX4_left, Cond.code yX4_left cX4_left 2 (some .int), Cond.methodLink RL 110 yX5_left, Cond.instanceMethod yX5_left, Cond.selects RX5 yX5_left yX5_left, Cond.code yX5_left cX5_left 2 (some .int)]
def wsL_law0 : List Cond := (wsL_law0_r1 ++ (wsL_law0_r2 ++ (wsL_law0_r3 ++ (wsL_law0_r4 ++ (wsL_law0_r5 ++ (wsL_law0_r6 ++ (wsL_law0_r7 ++ (wsL_law0_r8 ++ (wsL_law0_r9 ++ (wsL_law0_r10 ++ (wsL_law0_r11 ++ (wsL_law0_r12 ++ (wsL_law0_r13 ++ (wsL_law0_r14 ++ (wsL_law0_r15 ++ (wsL_law0_r16 ++ (wsL_law0_r17 ++ wsL_law0_r18))))))))))))))))) ++ wsX40 ++ wsX50 ++ wsX20 ++ wsX10 ++ wsX00 ++ wsX30 ++ ([] : List Cond)
def wsL_law : List Cond := wsL_law0 ++ (vx_atS RX4 101 "java/lang/IllegalArgumentException" ["java/lang/RuntimeException", "java/lang/Exception"]).filter goodWord ++ (vx_atS RX4 120 "java/lang/IllegalStateException" ["java/lang/RuntimeException", "java/lang/Exception"]).filter goodWord
abbrev vwCl : List vw_C := [(RX0, TX0, 5), (RX1, TX1, 9), (RX2, TX2, 2), (RX3, TX3, 8), (RX4, TX4, 4), (RX5, TX5, 25)]
end
section
set_option maxRecDepth 20000 in
theorem ggX0_init_J7_fill_53178 : GoodIn wsX0_init wsJ7_fill_53178 := goodIn_r _ [13] (by decide +kernel) (by decide +kernel)
set_option maxRecDepth 20000 in
theorem gX0_init_J7_fill_53178 : GoodIn wsX0_init (va_wsS RX0 30 yJ7_fill_53178 wsJ7_fill_53178) := goodIn_app (goodIn_of _ (by decide +kernel)) ggX0_init_J7_fill_53178
theorem dX0_init_0 : decode cX0_init 0 = .ok (.aload_n 0, 1) := by decide +kernel
theorem dX0_init_1 : decode cX0_init 1 = .ok (.invokespecial 3, 3) := by decide +kernel
theorem dX0_init_4 : decode cX0_init 4 = .ok (.aload_n 0, 1) := by decide +kernel
theorem dX0_init_5 : decode cX0_init 5 = .ok (.aload_n 1, 1) := by decide +kernel
theorem dX0_init_6 : decode cX0_init 6 = .ok (.putfield 9, 3) := by decide +kernel
theorem dX0_init_9 : decode cX0_init 9 = .ok (.aload_n 0, 1) := by decide +kernel
theorem dX0_init_10 : decode cX0_init 10 = .ok (.aload_n 2, 1) := by decide +kernel
theorem dX0_init_11 : decode cX0_init 11 = .ok (.putfield 15, 3) := by decide +kernel
theorem dX0_init_14 : decode cX0_init 14 = .ok (.aload_n 0, 1) := by decide +kernel
theorem dX0_init_15 : decode cX0_init 15 = .ok (.bipush 40, 2) := by decide +kernel
theorem dX0_init_17 : decode cX0_init 17 = .ok (.newarray .int, 2) := by decide +kernel
theorem dX0_init_19 : decode cX0_init 19 = .ok (.putfield 19, 3) := by decide +kernel
theorem dX0_init_22 : decode cX0_init 22 = .ok (.aload_n 0, 1) := by decide +kernel
theorem dX0_init_23 : decode cX0_init 23 = .ok (.bipush 40, 2) := by decide +kernel
theorem dX0_init_25 : decode cX0_init 25 = .ok (.newarray .int, 2) := by decide +kernel
theorem dX0_init_27 : decode cX0_init 27 = .ok (.putfield 23, 3) := by decide +kernel
theorem dX0_init_30 : decode cX0_init 30 = .ok (.aload_n 0, 1) := by decide +kernel
theorem dX0_init_31 : decode cX0_init 31 = .ok (.iconst (-1), 1) := by decide +kernel
theorem dX0_init_32 : decode cX0_init 32 = .ok (.putfield 26, 3) := by decide +kernel
theorem dX0_init_35 : decode cX0_init 35 = .ok (.aload_n 0, 1) := by decide +kernel
theorem dX0_init_36 : decode cX0_init 36 = .ok (.getfield 19, 3) := by decide +kernel
theorem dX0_init_39 : decode cX0_init 39 = .ok (.iconst (-1), 1) := by decide +kernel
theorem dX0_init_40 : decode cX0_init 40 = .ok (.invokestatic 30, 3) := by decide +kernel
theorem dX0_init_43 : decode cX0_init 43 = .ok (.return_, 1) := by decide +kernel
set_option maxRecDepth 20000 in
theorem ggX0_heldBefore_X4_isBelow : GoodIn wsX0_heldBefore wsX4_isBelow := goodIn_r _ [4] (by decide +kernel) (by decide +kernel)
set_option maxRecDepth 20000 in
theorem gX0_heldBefore_X4_isBelow_n36 : GoodIn wsX0_heldBefore (wsX4_isBelow) := ggX0_heldBefore_X4_isBelow
theorem dX0_heldBefore_0 : decode cX0_heldBefore 0 = .ok (.iload_n 1, 1) := by decide +kernel
theorem dX0_heldBefore_1 : decode cX0_heldBefore 1 = .ok (.bipush 40, 2) := by decide +kernel
theorem dX0_heldBefore_3 : decode cX0_heldBefore 3 = .ok (.invokestatic 36, 3) := by decide +kernel
theorem dX0_heldBefore_6 : decode cX0_heldBefore 6 = .ok (.ifCond .eq 12, 3) := by decide +kernel
theorem dX0_heldBefore_9 : decode cX0_heldBefore 9 = .ok (.aload_n 0, 1) := by decide +kernel
theorem dX0_heldBefore_10 : decode cX0_heldBefore 10 = .ok (.getfield 19, 3) := by decide +kernel
theorem dX0_heldBefore_13 : decode cX0_heldBefore 13 = .ok (.iload_n 1, 1) := by decide +kernel
theorem dX0_heldBefore_14 : decode cX0_heldBefore 14 = .ok (.iaload, 1) := by decide +kernel
theorem dX0_heldBefore_15 : decode cX0_heldBefore 15 = .ok (.goto 4, 3) := by decide +kernel
theorem dX0_heldBefore_18 : decode cX0_heldBefore 18 = .ok (.iconst (-1), 1) := by decide +kernel
theorem dX0_heldBefore_19 : decode cX0_heldBefore 19 = .ok (.ireturn, 1) := by decide +kernel
set_option maxRecDepth 20000 in
theorem ggX0_checkProgram_J7_fill_53178 : GoodIn wsX0_checkProgram wsJ7_fill_53178 := goodIn_r _ [8] (by decide +kernel) (by decide +kernel)
set_option maxRecDepth 20000 in
theorem gX0_checkProgram_J7_fill_53178 : GoodIn wsX0_checkProgram (va_wsS RX0 30 yJ7_fill_53178 wsJ7_fill_53178) := goodIn_app (goodIn_of _ (by decide +kernel)) ggX0_checkProgram_J7_fill_53178
set_option maxRecDepth 20000 in
theorem ggX0_checkProgram_X1_hasOpenBlocks : GoodIn wsX0_checkProgram wsX1_hasOpenBlocks := goodIn_r _ [13, 14, 66, 67, 68, 69, 70, 71, 72, 73, 74] (by decide +kernel) (by decide +kernel)
set_option maxRecDepth 20000 in
theorem gX0_checkProgram_X1_hasOpenBlocks : GoodIn wsX0_checkProgram (wsV RX0 45 RX1 yX1_hasOpenBlocks wsX1_hasOpenBlocks) := goodIn_app (goodIn_of _ (by decide +kernel)) ggX0_checkProgram_X1_hasOpenBlocks
set_option maxRecDepth 20000 in
theorem ggX0_checkProgram_X0_afterEntry : GoodIn wsX0_checkProgram wsX0_afterEntry := goodIn_r _ [19, 2, 20, 1, 4, 21, 22, 23, 12, 24, 25, 26, 27, 28, 29, 30, 31, 32, 33, 34, 35, 36, 37, 38, 39, 40, 41, 42, 43, 44, 45, 46, 47, 48, 49, 50, 51, 52, 53, 54, 55, 61, 62, 63, 64, 65, 66, 67, 68, 69, 70, 71, 72, 73, 74, 75, 76] (by decide +kernel) (by decide +kernel)
set_option maxRecDepth 20000 in
theorem gX0_checkProgram_X0_afterEntry : GoodIn wsX0_checkProgram (wsV RX0 52 RX0 yX0_afterEntry wsX0_afterEntry) := goodIn_app (goodIn_of _ (by decide +kernel)) ggX0_checkProgram_X0_afterEntry
set_option maxRecDepth 20000 in
theorem ggX0_checkProgram_X2_faultOfLeaving : GoodIn wsX0_checkProgram wsX2_faultOfLeaving := goodIn_r _ [59, 37, 27, 38, 60, 52, 53, 46, 54, 55, 26, 28, 75, 76] (by decide +kernel) (by decide +kernel)
set_option maxRecDepth 20000 in
theorem gX0_checkProgram_X2_faultOfLeaving : GoodIn wsX0_checkProgram (wsV RX0 59 RX2 yX2_faultOfLeaving wsX2_faultOfLeaving) := goodIn_app (goodIn_of _ (by decide +kernel)) ggX0_checkProgram_X2_faultOfLeaving
theorem dX0_checkProgram_0 : decode cX0_checkProgram 0 = .ok (.aload_n 0, 1) := by decide +kernel
theorem dX0_checkProgram_1 : decode cX0_checkProgram 1 = .ok (.getfield 19, 3) := by decide +kernel
theorem dX0_checkProgram_4 : decode cX0_checkProgram 4 = .ok (.iconst (-1), 1) := by decide +kernel
theorem dX0_checkProgram_5 : decode cX0_checkProgram 5 = .ok (.invokestatic 30, 3) := by decide +kernel
theorem dX0_checkProgram_8 : decode cX0_checkProgram 8 = .ok (.aload_n 0, 1) := by decide +kernel
theorem dX0_checkProgram_9 : decode cX0_checkProgram 9 = .ok (.aload_n 0, 1) := by decide +kernel
theorem dX0_checkProgram_10 : decode cX0_checkProgram 10 = .ok (.getfield 9, 3) := by decide +kernel
theorem dX0_checkProgram_13 : decode cX0_checkProgram 13 = .ok (.getfield 40, 3) := by decide +kernel
theorem dX0_checkProgram_16 : decode cX0_checkProgram 16 = .ok (.putfield 26, 3) := by decide +kernel
theorem dX0_checkProgram_19 : decode cX0_checkProgram 19 = .ok (.aload_n 0, 1) := by decide +kernel
theorem dX0_checkProgram_20 : decode cX0_checkProgram 20 = .ok (.getfield 9, 3) := by decide +kernel
theorem dX0_checkProgram_23 : decode cX0_checkProgram 23 = .ok (.invokevirtual 45, 3) := by decide +kernel
theorem dX0_checkProgram_26 : decode cX0_checkProgram 26 = .ok (.ifCond .eq 6, 3) := by decide +kernel
theorem dX0_checkProgram_29 : decode cX0_checkProgram 29 = .ok (.bipush 8, 2) := by decide +kernel
theorem dX0_checkProgram_31 : decode cX0_checkProgram 31 = .ok (.ireturn, 1) := by decide +kernel
theorem dX0_checkProgram_32 : decode cX0_checkProgram 32 = .ok (.iconst 0, 1) := by decide +kernel
theorem dX0_checkProgram_33 : decode cX0_checkProgram 33 = .ok (.istore_n 1, 1) := by decide +kernel
theorem dX0_checkProgram_34 : decode cX0_checkProgram 34 = .ok (.iconst 0, 1) := by decide +kernel
theorem dX0_checkProgram_35 : decode cX0_checkProgram 35 = .ok (.istore_n 2, 1) := by decide +kernel
theorem dX0_checkProgram_36 : decode cX0_checkProgram 36 = .ok (.iload_n 2, 1) := by decide +kernel
theorem dX0_checkProgram_37 : decode cX0_checkProgram 37 = .ok (.aload_n 0, 1) := by decide +kernel
theorem dX0_checkProgram_38 : decode cX0_checkProgram 38 = .ok (.getfield 9, 3) := by decide +kernel
theorem dX0_checkProgram_41 : decode cX0_checkProgram 41 = .ok (.getfield 49, 3) := by decide +kernel
theorem dX0_checkProgram_44 : decode cX0_checkProgram 44 = .ok (.if_icmp .ge 38, 3) := by decide +kernel
theorem dX0_checkProgram_47 : decode cX0_checkProgram 47 = .ok (.aload_n 0, 1) := by decide +kernel
theorem dX0_checkProgram_48 : decode cX0_checkProgram 48 = .ok (.iload_n 2, 1) := by decide +kernel
theorem dX0_checkProgram_49 : decode cX0_checkProgram 49 = .ok (.iload_n 1, 1) := by decide +kernel
theorem dX0_checkProgram_50 : decode cX0_checkProgram 50 = .ok (.invokevirtual 52, 3) := by decide +kernel
theorem dX0_checkProgram_53 : decode cX0_checkProgram 53 = .ok (.istore_n 3, 1) := by decide +kernel
theorem dX0_checkProgram_54 : decode cX0_checkProgram 54 = .ok (.iload_n 3, 1) := by decide +kernel
theorem dX0_checkProgram_55 : decode cX0_checkProgram 55 = .ok (.ifCond .ge 19, 3) := by decide +kernel
theorem dX0_checkProgram_58 : decode cX0_checkProgram 58 = .ok (.aload_n 0, 1) := by decide +kernel
theorem dX0_checkProgram_59 : decode cX0_checkProgram 59 = .ok (.aload_n 0, 1) := by decide +kernel
theorem dX0_checkProgram_60 : decode cX0_checkProgram 60 = .ok (.getfield 9, 3) := by decide +kernel
theorem dX0_checkProgram_63 : decode cX0_checkProgram 63 = .ok (.getfield 56, 3) := by decide +kernel
theorem dX0_checkProgram_66 : decode cX0_checkProgram 66 = .ok (.iload_n 2, 1) := by decide +kernel
theorem dX0_checkProgram_67 : decode cX0_checkProgram 67 = .ok (.iaload, 1) := by decide +kernel
theorem dX0_checkProgram_68 : decode cX0_checkProgram 68 = .ok (.putfield 26, 3) := by decide +kernel
theorem dX0_checkProgram_71 : decode cX0_checkProgram 71 = .ok (.iload_n 3, 1) := by decide +kernel
theorem dX0_checkProgram_72 : decode cX0_checkProgram 72 = .ok (.ineg, 1) := by decide +kernel
theorem dX0_checkProgram_73 : decode cX0_checkProgram 73 = .ok (.ireturn, 1) := by decide +kernel
theorem dX0_checkProgram_74 : decode cX0_checkProgram 74 = .ok (.iload_n 3, 1) := by decide +kernel
theorem dX0_checkProgram_75 : decode cX0_checkProgram 75 = .ok (.istore_n 1, 1) := by decide +kernel
theorem dX0_checkProgram_76 : decode cX0_checkProgram 76 = .ok (.iinc 2 1, 3) := by decide +kernel
theorem dX0_checkProgram_79 : decode cX0_checkProgram 79 = .ok (.goto (-43), 3) := by decide +kernel
theorem dX0_checkProgram_82 : decode cX0_checkProgram 82 = .ok (.aload_n 0, 1) := by decide +kernel
theorem dX0_checkProgram_83 : decode cX0_checkProgram 83 = .ok (.getfield 15, 3) := by decide +kernel
theorem dX0_checkProgram_86 : decode cX0_checkProgram 86 = .ok (.iload_n 1, 1) := by decide +kernel
theorem dX0_checkProgram_87 : decode cX0_checkProgram 87 = .ok (.invokevirtual 59, 3) := by decide +kernel
theorem dX0_checkProgram_90 : decode cX0_checkProgram 90 = .ok (.istore_n 2, 1) := by decide +kernel
theorem dX0_checkProgram_91 : decode cX0_checkProgram 91 = .ok (.iload_n 2, 1) := by decide +kernel
theorem dX0_checkProgram_92 : decode cX0_checkProgram 92 = .ok (.ifCond .ne 8, 3) := by decide +kernel
theorem dX0_checkProgram_95 : decode cX0_checkProgram 95 = .ok (.aload_n 0, 1) := by decide +kernel
theorem dX0_checkProgram_96 : decode cX0_checkProgram 96 = .ok (.iconst (-1), 1) := by decide +kernel
theorem dX0_checkProgram_97 : decode cX0_checkProgram 97 = .ok (.putfield 26, 3) := by decide +kernel
theorem dX0_checkProgram_100 : decode cX0_checkProgram 100 = .ok (.iload_n 2, 1) := by decide +kernel
theorem dX0_checkProgram_101 : decode cX0_checkProgram 101 = .ok (.ireturn, 1) := by decide +kernel
set_option maxRecDepth 20000 in
theorem ggX0_afterEntry_X1_hasEntry : GoodIn wsX0_afterEntry wsX1_hasEntry := goodIn_r _ [9, 10, 11, 12, 13, 46, 47, 48, 49, 50, 51, 52, 53, 54] (by decide +kernel) (by decide +kernel)
set_option maxRecDepth 20000 in
theorem gX0_afterEntry_X1_hasEntry : GoodIn wsX0_afterEntry (wsV RX0 65 RX1 yX1_hasEntry wsX1_hasEntry) := goodIn_app (goodIn_of _ (by decide +kernel)) ggX0_afterEntry_X1_hasEntry
set_option maxRecDepth 20000 in
theorem ggX0_afterEntry_X4_isBelow : GoodIn wsX0_afterEntry wsX4_isBelow := goodIn_r _ [13] (by decide +kernel) (by decide +kernel)
set_option maxRecDepth 20000 in
theorem gX0_afterEntry_X4_isBelow_n36 : GoodIn wsX0_afterEntry (wsX4_isBelow) := ggX0_afterEntry_X4_isBelow
set_option maxRecDepth 20000 in
theorem ggX0_afterEntry_X1_afterSimple : GoodIn wsX0_afterEntry wsX1_afterSimple := goodIn_r _ [17, 18, 19, 20, 21, 6, 7, 8, 9, 10, 11, 12, 13, 22, 23, 24, 25, 26, 27, 28, 29, 30, 31, 32, 33, 34, 35, 36, 37, 38, 39, 40, 46, 47, 48, 49, 50, 51, 52, 53, 54, 55, 56] (by decide +kernel) (by decide +kernel)
set_option maxRecDepth 20000 in
theorem gX0_afterEntry_X1_afterSimple : GoodIn wsX0_afterEntry (wsV RX0 72 RX1 yX1_afterSimple wsX1_afterSimple) := goodIn_app (goodIn_of _ (by decide +kernel)) ggX0_afterEntry_X1_afterSimple
theorem dX0_afterEntry_0 : decode cX0_afterEntry 0 = .ok (.aload_n 0, 1) := by decide +kernel
theorem dX0_afterEntry_1 : decode cX0_afterEntry 1 = .ok (.getfield 9, 3) := by decide +kernel
theorem dX0_afterEntry_4 : decode cX0_afterEntry 4 = .ok (.iload_n 1, 1) := by decide +kernel
theorem dX0_afterEntry_5 : decode cX0_afterEntry 5 = .ok (.invokevirtual 65, 3) := by decide +kernel
theorem dX0_afterEntry_8 : decode cX0_afterEntry 8 = .ok (.ifCond .eq 15, 3) := by decide +kernel
theorem dX0_afterEntry_11 : decode cX0_afterEntry 11 = .ok (.aload_n 0, 1) := by decide +kernel
theorem dX0_afterEntry_12 : decode cX0_afterEntry 12 = .ok (.getfield 9, 3) := by decide +kernel
theorem dX0_afterEntry_15 : decode cX0_afterEntry 15 = .ok (.getfield 56, 3) := by decide +kernel
theorem dX0_afterEntry_18 : decode cX0_afterEntry 18 = .ok (.iload_n 1, 1) := by decide +kernel
theorem dX0_afterEntry_19 : decode cX0_afterEntry 19 = .ok (.iaload, 1) := by decide +kernel
theorem dX0_afterEntry_20 : decode cX0_afterEntry 20 = .ok (.goto 4, 3) := by decide +kernel
theorem dX0_afterEntry_23 : decode cX0_afterEntry 23 = .ok (.iconst (-1), 1) := by decide +kernel
theorem dX0_afterEntry_24 : decode cX0_afterEntry 24 = .ok (.istore_n 3, 1) := by decide +kernel
theorem dX0_afterEntry_25 : decode cX0_afterEntry 25 = .ok (.iload_n 3, 1) := by decide +kernel
theorem dX0_afterEntry_26 : decode cX0_afterEntry 26 = .ok (.bipush 40, 2) := by decide +kernel
theorem dX0_afterEntry_28 : decode cX0_afterEntry 28 = .ok (.invokestatic 36, 3) := by decide +kernel
theorem dX0_afterEntry_31 : decode cX0_afterEntry 31 = .ok (.ifCond .ne 5, 3) := by decide +kernel
theorem dX0_afterEntry_34 : decode cX0_afterEntry 34 = .ok (.iload_n 2, 1) := by decide +kernel
theorem dX0_afterEntry_35 : decode cX0_afterEntry 35 = .ok (.ireturn, 1) := by decide +kernel
theorem dX0_afterEntry_36 : decode cX0_afterEntry 36 = .ok (.aload_n 0, 1) := by decide +kernel
theorem dX0_afterEntry_37 : decode cX0_afterEntry 37 = .ok (.getfield 9, 3) := by decide +kernel
theorem dX0_afterEntry_40 : decode cX0_afterEntry 40 = .ok (.getfield 69, 3) := by decide +kernel
theorem dX0_afterEntry_43 : decode cX0_afterEntry 43 = .ok (.iload_n 1, 1) := by decide +kernel
theorem dX0_afterEntry_44 : decode cX0_afterEntry 44 = .ok (.iaload, 1) := by decide +kernel
theorem dX0_afterEntry_45 : decode cX0_afterEntry 45 = .ok (.tableswitch 92 4 8 #[83, 35, 49, 83, 66], 35) := by decide +kernel
theorem dX0_afterEntry_80 : decode cX0_afterEntry 80 = .ok (.aload_n 0, 1) := by decide +kernel
theorem dX0_afterEntry_81 : decode cX0_afterEntry 81 = .ok (.getfield 23, 3) := by decide +kernel
theorem dX0_afterEntry_84 : decode cX0_afterEntry 84 = .ok (.iload_n 3, 1) := by decide +kernel
theorem dX0_afterEntry_85 : decode cX0_afterEntry 85 = .ok (.iload_n 2, 1) := by decide +kernel
theorem dX0_afterEntry_86 : decode cX0_afterEntry 86 = .ok (.iastore, 1) := by decide +kernel
theorem dX0_afterEntry_87 : decode cX0_afterEntry 87 = .ok (.aload_n 0, 1) := by decide +kernel
theorem dX0_afterEntry_88 : decode cX0_afterEntry 88 = .ok (.getfield 19, 3) := by decide +kernel
theorem dX0_afterEntry_91 : decode cX0_afterEntry 91 = .ok (.iload_n 3, 1) := by decide +kernel
theorem dX0_afterEntry_92 : decode cX0_afterEntry 92 = .ok (.iaload, 1) := by decide +kernel
theorem dX0_afterEntry_93 : decode cX0_afterEntry 93 = .ok (.ireturn, 1) := by decide +kernel
theorem dX0_afterEntry_94 : decode cX0_afterEntry 94 = .ok (.iload_n 2, 1) := by decide +kernel
theorem dX0_afterEntry_95 : decode cX0_afterEntry 95 = .ok (.aload_n 0, 1) := by decide +kernel
theorem dX0_afterEntry_96 : decode cX0_afterEntry 96 = .ok (.getfield 23, 3) := by decide +kernel
theorem dX0_afterEntry_99 : decode cX0_afterEntry 99 = .ok (.iload_n 3, 1) := by decide +kernel
theorem dX0_afterEntry_100 : decode cX0_afterEntry 100 = .ok (.iaload, 1) := by decide +kernel
theorem dX0_afterEntry_101 : decode cX0_afterEntry 101 = .ok (.if_icmp .ne 7, 3) := by decide +kernel
theorem dX0_afterEntry_104 : decode cX0_afterEntry 104 = .ok (.iload_n 2, 1) := by decide +kernel
theorem dX0_afterEntry_105 : decode cX0_afterEntry 105 = .ok (.goto 5, 3) := by decide +kernel
theorem dX0_afterEntry_108 : decode cX0_afterEntry 108 = .ok (.bipush (-5), 2) := by decide +kernel
theorem dX0_afterEntry_110 : decode cX0_afterEntry 110 = .ok (.ireturn, 1) := by decide +kernel
theorem dX0_afterEntry_111 : decode cX0_afterEntry 111 = .ok (.iload_n 2, 1) := by decide +kernel
theorem dX0_afterEntry_112 : decode cX0_afterEntry 112 = .ok (.aload_n 0, 1) := by decide +kernel
theorem dX0_afterEntry_113 : decode cX0_afterEntry 113 = .ok (.getfield 19, 3) := by decide +kernel
theorem dX0_afterEntry_116 : decode cX0_afterEntry 116 = .ok (.iload_n 3, 1) := by decide +kernel
theorem dX0_afterEntry_117 : decode cX0_afterEntry 117 = .ok (.iaload, 1) := by decide +kernel
theorem dX0_afterEntry_118 : decode cX0_afterEntry 118 = .ok (.if_icmp .ne 7, 3) := by decide +kernel
theorem dX0_afterEntry_121 : decode cX0_afterEntry 121 = .ok (.iload_n 2, 1) := by decide +kernel
theorem dX0_afterEntry_122 : decode cX0_afterEntry 122 = .ok (.goto 5, 3) := by decide +kernel
theorem dX0_afterEntry_125 : decode cX0_afterEntry 125 = .ok (.bipush (-6), 2) := by decide +kernel
theorem dX0_afterEntry_127 : decode cX0_afterEntry 127 = .ok (.ireturn, 1) := by decide +kernel
theorem dX0_afterEntry_128 : decode cX0_afterEntry 128 = .ok (.aload_n 0, 1) := by decide +kernel
theorem dX0_afterEntry_129 : decode cX0_afterEntry 129 = .ok (.getfield 19, 3) := by decide +kernel
theorem dX0_afterEntry_132 : decode cX0_afterEntry 132 = .ok (.iload_n 3, 1) := by decide +kernel
theorem dX0_afterEntry_133 : decode cX0_afterEntry 133 = .ok (.iload_n 2, 1) := by decide +kernel
theorem dX0_afterEntry_134 : decode cX0_afterEntry 134 = .ok (.iastore, 1) := by decide +kernel
theorem dX0_afterEntry_135 : decode cX0_afterEntry 135 = .ok (.iload_n 2, 1) := by decide +kernel
theorem dX0_afterEntry_136 : decode cX0_afterEntry 136 = .ok (.ireturn, 1) := by decide +kernel
theorem dX0_afterEntry_137 : decode cX0_afterEntry 137 = .ok (.aload_n 0, 1) := by decide +kernel
theorem dX0_afterEntry_138 : decode cX0_afterEntry 138 = .ok (.getfield 19, 3) := by decide +kernel
theorem dX0_afterEntry_141 : decode cX0_afterEntry 141 = .ok (.iload_n 3, 1) := by decide +kernel
theorem dX0_afterEntry_142 : decode cX0_afterEntry 142 = .ok (.iload_n 2, 1) := by decide +kernel
theorem dX0_afterEntry_143 : decode cX0_afterEntry 143 = .ok (.iastore, 1) := by decide +kernel
theorem dX0_afterEntry_144 : decode cX0_afterEntry 144 = .ok (.aload_n 0, 1) := by decide +kernel
theorem dX0_afterEntry_145 : decode cX0_afterEntry 145 = .ok (.getfield 9, 3) := by decide +kernel
theorem dX0_afterEntry_148 : decode cX0_afterEntry 148 = .ok (.iload_n 1, 1) := by decide +kernel
theorem dX0_afterEntry_149 : decode cX0_afterEntry 149 = .ok (.iload_n 2, 1) := by decide +kernel
theorem dX0_afterEntry_150 : decode cX0_afterEntry 150 = .ok (.aload_n 0, 1) := by decide +kernel
theorem dX0_afterEntry_151 : decode cX0_afterEntry 151 = .ok (.getfield 15, 3) := by decide +kernel
theorem dX0_afterEntry_154 : decode cX0_afterEntry 154 = .ok (.invokevirtual 72, 3) := by decide +kernel
theorem dX0_afterEntry_157 : decode cX0_afterEntry 157 = .ok (.ireturn, 1) := by decide +kernel
theorem dX1_init_0 : decode cX1_init 0 = .ok (.aload_n 0, 1) := by decide +kernel
theorem dX1_init_1 : decode cX1_init 1 = .ok (.invokespecial 3, 3) := by decide +kernel
theorem dX1_init_4 : decode cX1_init 4 = .ok (.aload_n 0, 1) := by decide +kernel
theorem dX1_init_5 : decode cX1_init 5 = .ok (.bipush 120, 2) := by decide +kernel
theorem dX1_init_7 : decode cX1_init 7 = .ok (.newarray .int, 2) := by decide +kernel
theorem dX1_init_9 : decode cX1_init 9 = .ok (.putfield 9, 3) := by decide +kernel
theorem dX1_init_12 : decode cX1_init 12 = .ok (.aload_n 0, 1) := by decide +kernel
theorem dX1_init_13 : decode cX1_init 13 = .ok (.bipush 120, 2) := by decide +kernel
theorem dX1_init_15 : decode cX1_init 15 = .ok (.newarray .int, 2) := by decide +kernel
theorem dX1_init_17 : decode cX1_init 17 = .ok (.putfield 15, 3) := by decide +kernel
theorem dX1_init_20 : decode cX1_init 20 = .ok (.aload_n 0, 1) := by decide +kernel
theorem dX1_init_21 : decode cX1_init 21 = .ok (.bipush 120, 2) := by decide +kernel
theorem dX1_init_23 : decode cX1_init 23 = .ok (.newarray .int, 2) := by decide +kernel
theorem dX1_init_25 : decode cX1_init 25 = .ok (.putfield 18, 3) := by decide +kernel
theorem dX1_init_28 : decode cX1_init 28 = .ok (.aload_n 0, 1) := by decide +kernel
theorem dX1_init_29 : decode cX1_init 29 = .ok (.bipush 120, 2) := by decide +kernel
theorem dX1_init_31 : decode cX1_init 31 = .ok (.newarray .int, 2) := by decide +kernel
theorem dX1_init_33 : decode cX1_init 33 = .ok (.putfield 21, 3) := by decide +kernel
theorem dX1_init_36 : decode cX1_init 36 = .ok (.aload_n 0, 1) := by decide +kernel
theorem dX1_init_37 : decode cX1_init 37 = .ok (.bipush 120, 2) := by decide +kernel
theorem dX1_init_39 : decode cX1_init 39 = .ok (.newarray .int, 2) := by decide +kernel
theorem dX1_init_41 : decode cX1_init 41 = .ok (.putfield 24, 3) := by decide +kernel
theorem dX1_init_44 : decode cX1_init 44 = .ok (.aload_n 0, 1) := by decide +kernel
theorem dX1_init_45 : decode cX1_init 45 = .ok (.bipush 6, 2) := by decide +kernel
theorem dX1_init_47 : decode cX1_init 47 = .ok (.newarray .int, 2) := by decide +kernel
theorem dX1_init_49 : decode cX1_init 49 = .ok (.putfield 27, 3) := by decide +kernel
theorem dX1_init_52 : decode cX1_init 52 = .ok (.return_, 1) := by decide +kernel
theorem dX1_removeAll_0 : decode cX1_removeAll 0 = .ok (.aload_n 0, 1) := by decide +kernel
theorem dX1_removeAll_1 : decode cX1_removeAll 1 = .ok (.iconst 0, 1) := by decide +kernel
theorem dX1_removeAll_2 : decode cX1_removeAll 2 = .ok (.putfield 30, 3) := by decide +kernel
theorem dX1_removeAll_5 : decode cX1_removeAll 5 = .ok (.aload_n 0, 1) := by decide +kernel
theorem dX1_removeAll_6 : decode cX1_removeAll 6 = .ok (.iconst 0, 1) := by decide +kernel
theorem dX1_removeAll_7 : decode cX1_removeAll 7 = .ok (.putfield 34, 3) := by decide +kernel
theorem dX1_removeAll_10 : decode cX1_removeAll 10 = .ok (.aload_n 0, 1) := by decide +kernel
theorem dX1_removeAll_11 : decode cX1_removeAll 11 = .ok (.iconst 0, 1) := by decide +kernel
theorem dX1_removeAll_12 : decode cX1_removeAll 12 = .ok (.putfield 37, 3) := by decide +kernel
theorem dX1_removeAll_15 : decode cX1_removeAll 15 = .ok (.return_, 1) := by decide +kernel
theorem dX1_hasOpenBlocks_0 : decode cX1_hasOpenBlocks 0 = .ok (.aload_n 0, 1) := by decide +kernel
theorem dX1_hasOpenBlocks_1 : decode cX1_hasOpenBlocks 1 = .ok (.getfield 37, 3) := by decide +kernel
theorem dX1_hasOpenBlocks_4 : decode cX1_hasOpenBlocks 4 = .ok (.ifCond .le 7, 3) := by decide +kernel
theorem dX1_hasOpenBlocks_7 : decode cX1_hasOpenBlocks 7 = .ok (.iconst 1, 1) := by decide +kernel
theorem dX1_hasOpenBlocks_8 : decode cX1_hasOpenBlocks 8 = .ok (.goto 4, 3) := by decide +kernel
theorem dX1_hasOpenBlocks_11 : decode cX1_hasOpenBlocks 11 = .ok (.iconst 0, 1) := by decide +kernel
theorem dX1_hasOpenBlocks_12 : decode cX1_hasOpenBlocks 12 = .ok (.ireturn, 1) := by decide +kernel
set_option maxRecDepth 20000 in
theorem ggX1_hasEntry_X4_isBelow : GoodIn wsX1_hasEntry wsX4_isBelow := goodIn_r _ [4] (by decide +kernel) (by decide +kernel)
set_option maxRecDepth 20000 in
theorem gX1_hasEntry_X4_isBelow_n40 : GoodIn wsX1_hasEntry (wsX4_isBelow) := ggX1_hasEntry_X4_isBelow
theorem dX1_hasEntry_0 : decode cX1_hasEntry 0 = .ok (.iload_n 1, 1) := by decide +kernel
theorem dX1_hasEntry_1 : decode cX1_hasEntry 1 = .ok (.aload_n 0, 1) := by decide +kernel
theorem dX1_hasEntry_2 : decode cX1_hasEntry 2 = .ok (.getfield 30, 3) := by decide +kernel
theorem dX1_hasEntry_5 : decode cX1_hasEntry 5 = .ok (.invokestatic 40, 3) := by decide +kernel
theorem dX1_hasEntry_8 : decode cX1_hasEntry 8 = .ok (.ireturn, 1) := by decide +kernel
set_option maxRecDepth 20000 in
theorem ggX1_addSimple_X1_addEntry : GoodIn wsX1_addSimple wsX1_addEntry := goodIn_r _ [6, 7, 8, 9, 10, 11, 12, 13, 14, 15, 16, 17, 18, 19, 20] (by decide +kernel) (by decide +kernel)
set_option maxRecDepth 20000 in
theorem gX1_addSimple_X1_addEntry : GoodIn wsX1_addSimple (wsV RX1 44 RX1 yX1_addEntry wsX1_addEntry) := goodIn_app (goodIn_of _ (by decide +kernel)) ggX1_addSimple_X1_addEntry
theorem dX1_addSimple_0 : decode cX1_addSimple 0 = .ok (.aload_n 0, 1) := by decide +kernel
theorem dX1_addSimple_1 : decode cX1_addSimple 1 = .ok (.getfield 34, 3) := by decide +kernel
theorem dX1_addSimple_4 : decode cX1_addSimple 4 = .ok (.bipush 40, 2) := by decide +kernel
theorem dX1_addSimple_6 : decode cX1_addSimple 6 = .ok (.if_icmp .lt 5, 3) := by decide +kernel
theorem dX1_addSimple_9 : decode cX1_addSimple 9 = .ok (.iconst (-1), 1) := by decide +kernel
theorem dX1_addSimple_10 : decode cX1_addSimple 10 = .ok (.ireturn, 1) := by decide +kernel
theorem dX1_addSimple_11 : decode cX1_addSimple 11 = .ok (.aload_n 0, 1) := by decide +kernel
theorem dX1_addSimple_12 : decode cX1_addSimple 12 = .ok (.iload_n 1, 1) := by decide +kernel
theorem dX1_addSimple_13 : decode cX1_addSimple 13 = .ok (.aload_n 0, 1) := by decide +kernel
theorem dX1_addSimple_14 : decode cX1_addSimple 14 = .ok (.getfield 34, 3) := by decide +kernel
theorem dX1_addSimple_17 : decode cX1_addSimple 17 = .ok (.iload_n 2, 1) := by decide +kernel
theorem dX1_addSimple_18 : decode cX1_addSimple 18 = .ok (.iload_n 3, 1) := by decide +kernel
theorem dX1_addSimple_19 : decode cX1_addSimple 19 = .ok (.invokevirtual 44, 3) := by decide +kernel
theorem dX1_addSimple_22 : decode cX1_addSimple 22 = .ok (.aload_n 0, 1) := by decide +kernel
theorem dX1_addSimple_23 : decode cX1_addSimple 23 = .ok (.dup, 1) := by decide +kernel
theorem dX1_addSimple_24 : decode cX1_addSimple 24 = .ok (.getfield 34, 3) := by decide +kernel
theorem dX1_addSimple_27 : decode cX1_addSimple 27 = .ok (.dup_x1, 1) := by decide +kernel
theorem dX1_addSimple_28 : decode cX1_addSimple 28 = .ok (.iconst 1, 1) := by decide +kernel
theorem dX1_addSimple_29 : decode cX1_addSimple 29 = .ok (.iadd, 1) := by decide +kernel
theorem dX1_addSimple_30 : decode cX1_addSimple 30 = .ok (.putfield 34, 3) := by decide +kernel
theorem dX1_addSimple_33 : decode cX1_addSimple 33 = .ok (.ireturn, 1) := by decide +kernel
set_option maxRecDepth 20000 in
theorem ggX1_addOpening_X1_addEntry : GoodIn wsX1_addOpening wsX1_addEntry := goodIn_r _ [9, 4, 10, 11, 12, 13, 14, 15, 16, 17, 18, 19, 20, 21, 22] (by decide +kernel) (by decide +kernel)
set_option maxRecDepth 20000 in
theorem gX1_addOpening_X1_addEntry : GoodIn wsX1_addOpening (wsV RX1 44 RX1 yX1_addEntry wsX1_addEntry) := goodIn_app (goodIn_of _ (by decide +kernel)) ggX1_addOpening_X1_addEntry
theorem dX1_addOpening_0 : decode cX1_addOpening 0 = .ok (.aload_n 0, 1) := by decide +kernel
theorem dX1_addOpening_1 : decode cX1_addOpening 1 = .ok (.getfield 34, 3) := by decide +kernel
theorem dX1_addOpening_4 : decode cX1_addOpening 4 = .ok (.bipush 40, 2) := by decide +kernel
theorem dX1_addOpening_6 : decode cX1_addOpening 6 = .ok (.if_icmp .ge 12, 3) := by decide +kernel
theorem dX1_addOpening_9 : decode cX1_addOpening 9 = .ok (.aload_n 0, 1) := by decide +kernel
theorem dX1_addOpening_10 : decode cX1_addOpening 10 = .ok (.getfield 37, 3) := by decide +kernel
theorem dX1_addOpening_13 : decode cX1_addOpening 13 = .ok (.bipush 6, 2) := by decide +kernel
theorem dX1_addOpening_15 : decode cX1_addOpening 15 = .ok (.if_icmp .lt 5, 3) := by decide +kernel
theorem dX1_addOpening_18 : decode cX1_addOpening 18 = .ok (.iconst (-1), 1) := by decide +kernel
theorem dX1_addOpening_19 : decode cX1_addOpening 19 = .ok (.ireturn, 1) := by decide +kernel
theorem dX1_addOpening_20 : decode cX1_addOpening 20 = .ok (.aload_n 0, 1) := by decide +kernel
theorem dX1_addOpening_21 : decode cX1_addOpening 21 = .ok (.getfield 27, 3) := by decide +kernel
theorem dX1_addOpening_24 : decode cX1_addOpening 24 = .ok (.aload_n 0, 1) := by decide +kernel
theorem dX1_addOpening_25 : decode cX1_addOpening 25 = .ok (.getfield 37, 3) := by decide +kernel
theorem dX1_addOpening_28 : decode cX1_addOpening 28 = .ok (.aload_n 0, 1) := by decide +kernel
theorem dX1_addOpening_29 : decode cX1_addOpening 29 = .ok (.getfield 30, 3) := by decide +kernel
theorem dX1_addOpening_32 : decode cX1_addOpening 32 = .ok (.iastore, 1) := by decide +kernel
theorem dX1_addOpening_33 : decode cX1_addOpening 33 = .ok (.aload_n 0, 1) := by decide +kernel
theorem dX1_addOpening_34 : decode cX1_addOpening 34 = .ok (.dup, 1) := by decide +kernel
theorem dX1_addOpening_35 : decode cX1_addOpening 35 = .ok (.getfield 37, 3) := by decide +kernel
theorem dX1_addOpening_38 : decode cX1_addOpening 38 = .ok (.iconst 1, 1) := by decide +kernel
theorem dX1_addOpening_39 : decode cX1_addOpening 39 = .ok (.iadd, 1) := by decide +kernel
theorem dX1_addOpening_40 : decode cX1_addOpening 40 = .ok (.putfield 37, 3) := by decide +kernel
theorem dX1_addOpening_43 : decode cX1_addOpening 43 = .ok (.aload_n 0, 1) := by decide +kernel
theorem dX1_addOpening_44 : decode cX1_addOpening 44 = .ok (.iload_n 1, 1) := by decide +kernel
theorem dX1_addOpening_45 : decode cX1_addOpening 45 = .ok (.aload_n 0, 1) := by decide +kernel
theorem dX1_addOpening_46 : decode cX1_addOpening 46 = .ok (.getfield 34, 3) := by decide +kernel
theorem dX1_addOpening_49 : decode cX1_addOpening 49 = .ok (.iconst 0, 1) := by decide +kernel
theorem dX1_addOpening_50 : decode cX1_addOpening 50 = .ok (.iconst 0, 1) := by decide +kernel
theorem dX1_addOpening_51 : decode cX1_addOpening 51 = .ok (.invokevirtual 44, 3) := by decide +kernel
theorem dX1_addOpening_54 : decode cX1_addOpening 54 = .ok (.aload_n 0, 1) := by decide +kernel
theorem dX1_addOpening_55 : decode cX1_addOpening 55 = .ok (.dup, 1) := by decide +kernel
theorem dX1_addOpening_56 : decode cX1_addOpening 56 = .ok (.getfield 34, 3) := by decide +kernel
theorem dX1_addOpening_59 : decode cX1_addOpening 59 = .ok (.dup_x1, 1) := by decide +kernel
theorem dX1_addOpening_60 : decode cX1_addOpening 60 = .ok (.iconst 1, 1) := by decide +kernel
theorem dX1_addOpening_61 : decode cX1_addOpening 61 = .ok (.iadd, 1) := by decide +kernel
theorem dX1_addOpening_62 : decode cX1_addOpening 62 = .ok (.putfield 34, 3) := by decide +kernel
theorem dX1_addOpening_65 : decode cX1_addOpening 65 = .ok (.ireturn, 1) := by decide +kernel
set_option maxRecDepth 20000 in
theorem ggX1_beginElse_X1_lastOpened : GoodIn wsX1_beginElse wsX1_lastOpened := goodIn_r _ [11, 3, 2, 25, 26, 27, 28, 29, 30, 31, 32, 33] (by decide +kernel) (by decide +kernel)
set_option maxRecDepth 20000 in
theorem gX1_beginElse_X1_lastOpened : GoodIn wsX1_beginElse (wsV RX1 48 RX1 yX1_lastOpened wsX1_lastOpened) := goodIn_app (goodIn_of _ (by decide +kernel)) ggX1_beginElse_X1_lastOpened
set_option maxRecDepth 20000 in
theorem ggX1_beginElse_X1_hasEntry : GoodIn wsX1_beginElse wsX1_hasEntry := goodIn_r _ [15, 4, 16, 17, 18, 25, 26, 27, 28, 29, 30, 31, 32, 33] (by decide +kernel) (by decide +kernel)
set_option maxRecDepth 20000 in
theorem gX1_beginElse_X1_hasEntry : GoodIn wsX1_beginElse (wsV RX1 52 RX1 yX1_hasEntry wsX1_hasEntry) := goodIn_app (goodIn_of _ (by decide +kernel)) ggX1_beginElse_X1_hasEntry
set_option maxRecDepth 20000 in
theorem ggX1_beginElse_X1_addEntry : GoodIn wsX1_beginElse wsX1_addEntry := goodIn_r _ [22, 4, 1, 5, 23, 24, 25, 26, 27, 28, 29, 30, 31, 32, 33] (by decide +kernel) (by decide +kernel)
set_option maxRecDepth 20000 in
theorem gX1_beginElse_X1_addEntry : GoodIn wsX1_beginElse (wsV RX1 44 RX1 yX1_addEntry wsX1_addEntry) := goodIn_app (goodIn_of _ (by decide +kernel)) ggX1_beginElse_X1_addEntry
theorem dX1_beginElse_0 : decode cX1_beginElse 0 = .ok (.aload_n 0, 1) := by decide +kernel
theorem dX1_beginElse_1 : decode cX1_beginElse 1 = .ok (.invokevirtual 48, 3) := by decide +kernel
theorem dX1_beginElse_4 : decode cX1_beginElse 4 = .ok (.istore_n 1, 1) := by decide +kernel
theorem dX1_beginElse_5 : decode cX1_beginElse 5 = .ok (.aload_n 0, 1) := by decide +kernel
theorem dX1_beginElse_6 : decode cX1_beginElse 6 = .ok (.iload_n 1, 1) := by decide +kernel
theorem dX1_beginElse_7 : decode cX1_beginElse 7 = .ok (.invokevirtual 52, 3) := by decide +kernel
theorem dX1_beginElse_10 : decode cX1_beginElse 10 = .ok (.ifCond .eq 13, 3) := by decide +kernel
theorem dX1_beginElse_13 : decode cX1_beginElse 13 = .ok (.aload_n 0, 1) := by decide +kernel
theorem dX1_beginElse_14 : decode cX1_beginElse 14 = .ok (.getfield 9, 3) := by decide +kernel
theorem dX1_beginElse_17 : decode cX1_beginElse 17 = .ok (.iload_n 1, 1) := by decide +kernel
theorem dX1_beginElse_18 : decode cX1_beginElse 18 = .ok (.iaload, 1) := by decide +kernel
theorem dX1_beginElse_19 : decode cX1_beginElse 19 = .ok (.iconst 4, 1) := by decide +kernel
theorem dX1_beginElse_20 : decode cX1_beginElse 20 = .ok (.if_icmp .eq 5, 3) := by decide +kernel
theorem dX1_beginElse_23 : decode cX1_beginElse 23 = .ok (.iconst 0, 1) := by decide +kernel
theorem dX1_beginElse_24 : decode cX1_beginElse 24 = .ok (.ireturn, 1) := by decide +kernel
theorem dX1_beginElse_25 : decode cX1_beginElse 25 = .ok (.aload_n 0, 1) := by decide +kernel
theorem dX1_beginElse_26 : decode cX1_beginElse 26 = .ok (.getfield 27, 3) := by decide +kernel
theorem dX1_beginElse_29 : decode cX1_beginElse 29 = .ok (.aload_n 0, 1) := by decide +kernel
theorem dX1_beginElse_30 : decode cX1_beginElse 30 = .ok (.getfield 37, 3) := by decide +kernel
theorem dX1_beginElse_33 : decode cX1_beginElse 33 = .ok (.iconst 1, 1) := by decide +kernel
theorem dX1_beginElse_34 : decode cX1_beginElse 34 = .ok (.isub, 1) := by decide +kernel
theorem dX1_beginElse_35 : decode cX1_beginElse 35 = .ok (.aload_n 0, 1) := by decide +kernel
theorem dX1_beginElse_36 : decode cX1_beginElse 36 = .ok (.getfield 30, 3) := by decide +kernel
theorem dX1_beginElse_39 : decode cX1_beginElse 39 = .ok (.iastore, 1) := by decide +kernel
theorem dX1_beginElse_40 : decode cX1_beginElse 40 = .ok (.aload_n 0, 1) := by decide +kernel
theorem dX1_beginElse_41 : decode cX1_beginElse 41 = .ok (.iconst 5, 1) := by decide +kernel
theorem dX1_beginElse_42 : decode cX1_beginElse 42 = .ok (.aload_n 0, 1) := by decide +kernel
theorem dX1_beginElse_43 : decode cX1_beginElse 43 = .ok (.getfield 15, 3) := by decide +kernel
theorem dX1_beginElse_46 : decode cX1_beginElse 46 = .ok (.iload_n 1, 1) := by decide +kernel
theorem dX1_beginElse_47 : decode cX1_beginElse 47 = .ok (.iaload, 1) := by decide +kernel
theorem dX1_beginElse_48 : decode cX1_beginElse 48 = .ok (.iconst 0, 1) := by decide +kernel
theorem dX1_beginElse_49 : decode cX1_beginElse 49 = .ok (.iconst 0, 1) := by decide +kernel
theorem dX1_beginElse_50 : decode cX1_beginElse 50 = .ok (.invokevirtual 44, 3) := by decide +kernel
theorem dX1_beginElse_53 : decode cX1_beginElse 53 = .ok (.aload_n 0, 1) := by decide +kernel
theorem dX1_beginElse_54 : decode cX1_beginElse 54 = .ok (.getfield 24, 3) := by decide +kernel
theorem dX1_beginElse_57 : decode cX1_beginElse 57 = .ok (.iload_n 1, 1) := by decide +kernel
theorem dX1_beginElse_58 : decode cX1_beginElse 58 = .ok (.aload_n 0, 1) := by decide +kernel
theorem dX1_beginElse_59 : decode cX1_beginElse 59 = .ok (.getfield 30, 3) := by decide +kernel
theorem dX1_beginElse_62 : decode cX1_beginElse 62 = .ok (.iastore, 1) := by decide +kernel
theorem dX1_beginElse_63 : decode cX1_beginElse 63 = .ok (.iconst 1, 1) := by decide +kernel
theorem dX1_beginElse_64 : decode cX1_beginElse 64 = .ok (.ireturn, 1) := by decide +kernel
set_option maxRecDepth 20000 in
theorem ggX1_endBlock_X1_beginElse : GoodIn wsX1_endBlock wsX1_beginElse := goodIn_r _ [10, 2, 11, 5, 1, 3, 4, 12, 13, 14, 9, 15, 16, 17, 18, 19, 20, 21, 22, 23, 24, 25, 26, 27, 28, 29, 30, 31, 32, 33, 34, 35, 36, 37] (by decide +kernel) (by decide +kernel)
set_option maxRecDepth 20000 in
theorem gX1_endBlock_X1_beginElse : GoodIn wsX1_endBlock (wsV RX1 56 RX1 yX1_beginElse wsX1_beginElse) := goodIn_app (goodIn_of _ (by decide +kernel)) ggX1_endBlock_X1_beginElse
set_option maxRecDepth 20000 in
theorem ggX1_endBlock_X1_lastOpened : GoodIn wsX1_endBlock wsX1_lastOpened := goodIn_r _ [15, 5, 11, 29, 30, 31, 32, 33, 34, 35, 36, 37] (by decide +kernel) (by decide +kernel)
set_option maxRecDepth 20000 in
theorem gX1_endBlock_X1_lastOpened : GoodIn wsX1_endBlock (wsV RX1 48 RX1 yX1_lastOpened wsX1_lastOpened) := goodIn_app (goodIn_of _ (by decide +kernel)) ggX1_endBlock_X1_lastOpened
set_option maxRecDepth 20000 in
theorem ggX1_endBlock_X1_hasEntry : GoodIn wsX1_endBlock wsX1_hasEntry := goodIn_r _ [19, 1, 20, 21, 22, 29, 30, 31, 32, 33, 34, 35, 36, 37] (by decide +kernel) (by decide +kernel)
set_option maxRecDepth 20000 in
theorem gX1_endBlock_X1_hasEntry : GoodIn wsX1_endBlock (wsV RX1 52 RX1 yX1_hasEntry wsX1_hasEntry) := goodIn_app (goodIn_of _ (by decide +kernel)) ggX1_endBlock_X1_hasEntry
set_option maxRecDepth 20000 in
theorem ggX1_endBlock_X1_addEntry : GoodIn wsX1_endBlock wsX1_addEntry := goodIn_r _ [26, 1, 2, 3, 27, 28, 29, 30, 31, 32, 33, 34, 35, 36, 37] (by decide +kernel) (by decide +kernel)
set_option maxRecDepth 20000 in
theorem gX1_endBlock_X1_addEntry : GoodIn wsX1_endBlock (wsV RX1 44 RX1 yX1_addEntry wsX1_addEntry) := goodIn_app (goodIn_of _ (by decide +kernel)) ggX1_endBlock_X1_addEntry
theorem dX1_endBlock_0 : decode cX1_endBlock 0 = .ok (.aload_n 0, 1) := by decide +kernel
theorem dX1_endBlock_1 : decode cX1_endBlock 1 = .ok (.invokevirtual 56, 3) := by decide +kernel
theorem dX1_endBlock_4 : decode cX1_endBlock 4 = .ok (.pop, 1) := by decide +kernel
theorem dX1_endBlock_5 : decode cX1_endBlock 5 = .ok (.aload_n 0, 1) := by decide +kernel
theorem dX1_endBlock_6 : decode cX1_endBlock 6 = .ok (.invokevirtual 48, 3) := by decide +kernel
theorem dX1_endBlock_9 : decode cX1_endBlock 9 = .ok (.istore_n 1, 1) := by decide +kernel
theorem dX1_endBlock_10 : decode cX1_endBlock 10 = .ok (.aload_n 0, 1) := by decide +kernel
theorem dX1_endBlock_11 : decode cX1_endBlock 11 = .ok (.iload_n 1, 1) := by decide +kernel
theorem dX1_endBlock_12 : decode cX1_endBlock 12 = .ok (.invokevirtual 52, 3) := by decide +kernel
theorem dX1_endBlock_15 : decode cX1_endBlock 15 = .ok (.ifCond .ne 5, 3) := by decide +kernel
theorem dX1_endBlock_18 : decode cX1_endBlock 18 = .ok (.iconst 0, 1) := by decide +kernel
theorem dX1_endBlock_19 : decode cX1_endBlock 19 = .ok (.ireturn, 1) := by decide +kernel
theorem dX1_endBlock_20 : decode cX1_endBlock 20 = .ok (.aload_n 0, 1) := by decide +kernel
theorem dX1_endBlock_21 : decode cX1_endBlock 21 = .ok (.getfield 30, 3) := by decide +kernel
theorem dX1_endBlock_24 : decode cX1_endBlock 24 = .ok (.istore_n 2, 1) := by decide +kernel
theorem dX1_endBlock_25 : decode cX1_endBlock 25 = .ok (.aload_n 0, 1) := by decide +kernel
theorem dX1_endBlock_26 : decode cX1_endBlock 26 = .ok (.aload_n 0, 1) := by decide +kernel
theorem dX1_endBlock_27 : decode cX1_endBlock 27 = .ok (.getfield 9, 3) := by decide +kernel
theorem dX1_endBlock_30 : decode cX1_endBlock 30 = .ok (.iload_n 1, 1) := by decide +kernel
theorem dX1_endBlock_31 : decode cX1_endBlock 31 = .ok (.iaload, 1) := by decide +kernel
theorem dX1_endBlock_32 : decode cX1_endBlock 32 = .ok (.bipush 7, 2) := by decide +kernel
theorem dX1_endBlock_34 : decode cX1_endBlock 34 = .ok (.if_icmp .ne 8, 3) := by decide +kernel
theorem dX1_endBlock_37 : decode cX1_endBlock 37 = .ok (.bipush 8, 2) := by decide +kernel
theorem dX1_endBlock_39 : decode cX1_endBlock 39 = .ok (.goto 5, 3) := by decide +kernel
theorem dX1_endBlock_42 : decode cX1_endBlock 42 = .ok (.bipush 6, 2) := by decide +kernel
theorem dX1_endBlock_44 : decode cX1_endBlock 44 = .ok (.aload_n 0, 1) := by decide +kernel
theorem dX1_endBlock_45 : decode cX1_endBlock 45 = .ok (.getfield 15, 3) := by decide +kernel
theorem dX1_endBlock_48 : decode cX1_endBlock 48 = .ok (.iload_n 1, 1) := by decide +kernel
theorem dX1_endBlock_49 : decode cX1_endBlock 49 = .ok (.iaload, 1) := by decide +kernel
theorem dX1_endBlock_50 : decode cX1_endBlock 50 = .ok (.iconst 0, 1) := by decide +kernel
theorem dX1_endBlock_51 : decode cX1_endBlock 51 = .ok (.iconst 0, 1) := by decide +kernel
theorem dX1_endBlock_52 : decode cX1_endBlock 52 = .ok (.invokevirtual 44, 3) := by decide +kernel
theorem dX1_endBlock_55 : decode cX1_endBlock 55 = .ok (.aload_n 0, 1) := by decide +kernel
theorem dX1_endBlock_56 : decode cX1_endBlock 56 = .ok (.getfield 24, 3) := by decide +kernel
theorem dX1_endBlock_59 : decode cX1_endBlock 59 = .ok (.iload_n 1, 1) := by decide +kernel
theorem dX1_endBlock_60 : decode cX1_endBlock 60 = .ok (.aload_n 0, 1) := by decide +kernel
theorem dX1_endBlock_61 : decode cX1_endBlock 61 = .ok (.getfield 30, 3) := by decide +kernel
theorem dX1_endBlock_64 : decode cX1_endBlock 64 = .ok (.iastore, 1) := by decide +kernel
theorem dX1_endBlock_65 : decode cX1_endBlock 65 = .ok (.aload_n 0, 1) := by decide +kernel
theorem dX1_endBlock_66 : decode cX1_endBlock 66 = .ok (.getfield 9, 3) := by decide +kernel
theorem dX1_endBlock_69 : decode cX1_endBlock 69 = .ok (.iload_n 1, 1) := by decide +kernel
theorem dX1_endBlock_70 : decode cX1_endBlock 70 = .ok (.iaload, 1) := by decide +kernel
theorem dX1_endBlock_71 : decode cX1_endBlock 71 = .ok (.bipush 7, 2) := by decide +kernel
theorem dX1_endBlock_73 : decode cX1_endBlock 73 = .ok (.if_icmp .ne 18, 3) := by decide +kernel
theorem dX1_endBlock_76 : decode cX1_endBlock 76 = .ok (.aload_n 0, 1) := by decide +kernel
theorem dX1_endBlock_77 : decode cX1_endBlock 77 = .ok (.iload_n 2, 1) := by decide +kernel
theorem dX1_endBlock_78 : decode cX1_endBlock 78 = .ok (.invokevirtual 52, 3) := by decide +kernel
theorem dX1_endBlock_81 : decode cX1_endBlock 81 = .ok (.ifCond .eq 10, 3) := by decide +kernel
theorem dX1_endBlock_84 : decode cX1_endBlock 84 = .ok (.aload_n 0, 1) := by decide +kernel
theorem dX1_endBlock_85 : decode cX1_endBlock 85 = .ok (.getfield 24, 3) := by decide +kernel
theorem dX1_endBlock_88 : decode cX1_endBlock 88 = .ok (.iload_n 2, 1) := by decide +kernel
theorem dX1_endBlock_89 : decode cX1_endBlock 89 = .ok (.iload_n 1, 1) := by decide +kernel
theorem dX1_endBlock_90 : decode cX1_endBlock 90 = .ok (.iastore, 1) := by decide +kernel
theorem dX1_endBlock_91 : decode cX1_endBlock 91 = .ok (.aload_n 0, 1) := by decide +kernel
theorem dX1_endBlock_92 : decode cX1_endBlock 92 = .ok (.dup, 1) := by decide +kernel
theorem dX1_endBlock_93 : decode cX1_endBlock 93 = .ok (.getfield 37, 3) := by decide +kernel
theorem dX1_endBlock_96 : decode cX1_endBlock 96 = .ok (.iconst 1, 1) := by decide +kernel
theorem dX1_endBlock_97 : decode cX1_endBlock 97 = .ok (.isub, 1) := by decide +kernel
theorem dX1_endBlock_98 : decode cX1_endBlock 98 = .ok (.putfield 37, 3) := by decide +kernel
theorem dX1_endBlock_101 : decode cX1_endBlock 101 = .ok (.iconst 1, 1) := by decide +kernel
theorem dX1_endBlock_102 : decode cX1_endBlock 102 = .ok (.ireturn, 1) := by decide +kernel
theorem dX1_lastOpened_0 : decode cX1_lastOpened 0 = .ok (.aload_n 0, 1) := by decide +kernel
theorem dX1_lastOpened_1 : decode cX1_lastOpened 1 = .ok (.getfield 37, 3) := by decide +kernel
theorem dX1_lastOpened_4 : decode cX1_lastOpened 4 = .ok (.ifCond .le 17, 3) := by decide +kernel
theorem dX1_lastOpened_7 : decode cX1_lastOpened 7 = .ok (.aload_n 0, 1) := by decide +kernel
theorem dX1_lastOpened_8 : decode cX1_lastOpened 8 = .ok (.getfield 27, 3) := by decide +kernel
theorem dX1_lastOpened_11 : decode cX1_lastOpened 11 = .ok (.aload_n 0, 1) := by decide +kernel
theorem dX1_lastOpened_12 : decode cX1_lastOpened 12 = .ok (.getfield 37, 3) := by decide +kernel
theorem dX1_lastOpened_15 : decode cX1_lastOpened 15 = .ok (.iconst 1, 1) := by decide +kernel
theorem dX1_lastOpened_16 : decode cX1_lastOpened 16 = .ok (.isub, 1) := by decide +kernel
theorem dX1_lastOpened_17 : decode cX1_lastOpened 17 = .ok (.iaload, 1) := by decide +kernel
theorem dX1_lastOpened_18 : decode cX1_lastOpened 18 = .ok (.goto 4, 3) := by decide +kernel
theorem dX1_lastOpened_21 : decode cX1_lastOpened 21 = .ok (.iconst (-1), 1) := by decide +kernel
theorem dX1_lastOpened_22 : decode cX1_lastOpened 22 = .ok (.ireturn, 1) := by decide +kernel
theorem dX1_addEntry_0 : decode cX1_addEntry 0 = .ok (.aload_n 0, 1) := by decide +kernel
theorem dX1_addEntry_1 : decode cX1_addEntry 1 = .ok (.getfield 30, 3) := by decide +kernel
theorem dX1_addEntry_4 : decode cX1_addEntry 4 = .ok (.bipush 120, 2) := by decide +kernel
theorem dX1_addEntry_6 : decode cX1_addEntry 6 = .ok (.if_icmp .ge 54, 3) := by decide +kernel
theorem dX1_addEntry_9 : decode cX1_addEntry 9 = .ok (.aload_n 0, 1) := by decide +kernel
theorem dX1_addEntry_10 : decode cX1_addEntry 10 = .ok (.getfield 9, 3) := by decide +kernel
theorem dX1_addEntry_13 : decode cX1_addEntry 13 = .ok (.aload_n 0, 1) := by decide +kernel
theorem dX1_addEntry_14 : decode cX1_addEntry 14 = .ok (.getfield 30, 3) := by decide +kernel
theorem dX1_addEntry_17 : decode cX1_addEntry 17 = .ok (.iload_n 1, 1) := by decide +kernel
theorem dX1_addEntry_18 : decode cX1_addEntry 18 = .ok (.iastore, 1) := by decide +kernel
theorem dX1_addEntry_19 : decode cX1_addEntry 19 = .ok (.aload_n 0, 1) := by decide +kernel
theorem dX1_addEntry_20 : decode cX1_addEntry 20 = .ok (.getfield 15, 3) := by decide +kernel
theorem dX1_addEntry_23 : decode cX1_addEntry 23 = .ok (.aload_n 0, 1) := by decide +kernel
theorem dX1_addEntry_24 : decode cX1_addEntry 24 = .ok (.getfield 30, 3) := by decide +kernel
theorem dX1_addEntry_27 : decode cX1_addEntry 27 = .ok (.iload_n 2, 1) := by decide +kernel
theorem dX1_addEntry_28 : decode cX1_addEntry 28 = .ok (.iastore, 1) := by decide +kernel
theorem dX1_addEntry_29 : decode cX1_addEntry 29 = .ok (.aload_n 0, 1) := by decide +kernel
theorem dX1_addEntry_30 : decode cX1_addEntry 30 = .ok (.getfield 18, 3) := by decide +kernel
theorem dX1_addEntry_33 : decode cX1_addEntry 33 = .ok (.aload_n 0, 1) := by decide +kernel
theorem dX1_addEntry_34 : decode cX1_addEntry 34 = .ok (.getfield 30, 3) := by decide +kernel
theorem dX1_addEntry_37 : decode cX1_addEntry 37 = .ok (.iload_n 3, 1) := by decide +kernel
theorem dX1_addEntry_38 : decode cX1_addEntry 38 = .ok (.iastore, 1) := by decide +kernel
theorem dX1_addEntry_39 : decode cX1_addEntry 39 = .ok (.aload_n 0, 1) := by decide +kernel
theorem dX1_addEntry_40 : decode cX1_addEntry 40 = .ok (.getfield 21, 3) := by decide +kernel
theorem dX1_addEntry_43 : decode cX1_addEntry 43 = .ok (.aload_n 0, 1) := by decide +kernel
theorem dX1_addEntry_44 : decode cX1_addEntry 44 = .ok (.getfield 30, 3) := by decide +kernel
theorem dX1_addEntry_47 : decode cX1_addEntry 47 = .ok (.iload 4, 2) := by decide +kernel
theorem dX1_addEntry_49 : decode cX1_addEntry 49 = .ok (.iastore, 1) := by decide +kernel
theorem dX1_addEntry_50 : decode cX1_addEntry 50 = .ok (.aload_n 0, 1) := by decide +kernel
theorem dX1_addEntry_51 : decode cX1_addEntry 51 = .ok (.dup, 1) := by decide +kernel
theorem dX1_addEntry_52 : decode cX1_addEntry 52 = .ok (.getfield 30, 3) := by decide +kernel
theorem dX1_addEntry_55 : decode cX1_addEntry 55 = .ok (.iconst 1, 1) := by decide +kernel
theorem dX1_addEntry_56 : decode cX1_addEntry 56 = .ok (.iadd, 1) := by decide +kernel
theorem dX1_addEntry_57 : decode cX1_addEntry 57 = .ok (.putfield 30, 3) := by decide +kernel
theorem dX1_addEntry_60 : decode cX1_addEntry 60 = .ok (.return_, 1) := by decide +kernel
set_option maxRecDepth 20000 in
theorem ggX1_afterSimple_X1_hasEntry : GoodIn wsX1_afterSimple wsX1_hasEntry := goodIn_r _ [8, 9, 10, 11, 12, 32, 33, 34, 35, 36, 37, 38, 39, 40] (by decide +kernel) (by decide +kernel)
set_option maxRecDepth 20000 in
theorem gX1_afterSimple_X1_hasEntry : GoodIn wsX1_afterSimple (wsV RX1 52 RX1 yX1_hasEntry wsX1_hasEntry) := goodIn_app (goodIn_of _ (by decide +kernel)) ggX1_afterSimple_X1_hasEntry
set_option maxRecDepth 20000 in
theorem ggX1_afterSimple_X4_heldBy : GoodIn wsX1_afterSimple wsX4_heldBy := goodIn_r _ [14] (by decide +kernel) (by decide +kernel)
set_option maxRecDepth 20000 in
theorem gX1_afterSimple_X4_heldBy_n60 : GoodIn wsX1_afterSimple (wsX4_heldBy) := ggX1_afterSimple_X4_heldBy
set_option maxRecDepth 20000 in
theorem ggX1_afterSimple_X4_objectOf : GoodIn wsX1_afterSimple wsX4_objectOf := goodIn_r _ [16] (by decide +kernel) (by decide +kernel)
set_option maxRecDepth 20000 in
theorem gX1_afterSimple_X4_objectOf_n64 : GoodIn wsX1_afterSimple (wsX4_objectOf) := ggX1_afterSimple_X4_objectOf
set_option maxRecDepth 20000 in
theorem ggX1_afterSimple_X4_withHeld : GoodIn wsX1_afterSimple wsX4_withHeld := goodIn_r _ [18] (by decide +kernel) (by decide +kernel)
set_option maxRecDepth 20000 in
theorem gX1_afterSimple_X4_withHeld_n67 : GoodIn wsX1_afterSimple (wsX4_withHeld) := ggX1_afterSimple_X4_withHeld
set_option maxRecDepth 20000 in
theorem ggX1_afterSimple_X2_targetOf : GoodIn wsX1_afterSimple wsX2_targetOf := goodIn_r _ [23, 24, 10, 11, 12, 41, 42] (by decide +kernel) (by decide +kernel)
set_option maxRecDepth 20000 in
theorem gX1_afterSimple_X2_targetOf : GoodIn wsX1_afterSimple (wsV RX1 71 RX2 yX2_targetOf wsX2_targetOf) := goodIn_app (goodIn_of _ (by decide +kernel)) ggX1_afterSimple_X2_targetOf
set_option maxRecDepth 20000 in
theorem ggX1_afterSimple_X4_protocolOf : GoodIn wsX1_afterSimple wsX4_protocolOf := goodIn_r _ [26] (by decide +kernel) (by decide +kernel)
set_option maxRecDepth 20000 in
theorem gX1_afterSimple_X4_protocolOf_n76 : GoodIn wsX1_afterSimple (wsX4_protocolOf) := ggX1_afterSimple_X4_protocolOf
set_option maxRecDepth 20000 in
theorem ggX1_afterSimple_X2_mayBeLeft : GoodIn wsX1_afterSimple wsX2_mayBeLeft := goodIn_r _ [30, 31, 10, 11, 12, 41, 42] (by decide +kernel) (by decide +kernel)
set_option maxRecDepth 20000 in
theorem gX1_afterSimple_X2_mayBeLeft : GoodIn wsX1_afterSimple (wsV RX1 80 RX2 yX2_mayBeLeft wsX2_mayBeLeft) := goodIn_app (goodIn_of _ (by decide +kernel)) ggX1_afterSimple_X2_mayBeLeft
theorem dX1_afterSimple_0 : decode cX1_afterSimple 0 = .ok (.aload_n 0, 1) := by decide +kernel
theorem dX1_afterSimple_1 : decode cX1_afterSimple 1 = .ok (.iload_n 1, 1) := by decide +kernel
theorem dX1_afterSimple_2 : decode cX1_afterSimple 2 = .ok (.invokevirtual 52, 3) := by decide +kernel
theorem dX1_afterSimple_5 : decode cX1_afterSimple 5 = .ok (.ifCond .ne 5, 3) := by decide +kernel
theorem dX1_afterSimple_8 : decode cX1_afterSimple 8 = .ok (.iload_n 2, 1) := by decide +kernel
theorem dX1_afterSimple_9 : decode cX1_afterSimple 9 = .ok (.ireturn, 1) := by decide +kernel
theorem dX1_afterSimple_10 : decode cX1_afterSimple 10 = .ok (.aload_n 0, 1) := by decide +kernel
theorem dX1_afterSimple_11 : decode cX1_afterSimple 11 = .ok (.getfield 18, 3) := by decide +kernel
theorem dX1_afterSimple_14 : decode cX1_afterSimple 14 = .ok (.iload_n 1, 1) := by decide +kernel
theorem dX1_afterSimple_15 : decode cX1_afterSimple 15 = .ok (.iaload, 1) := by decide +kernel
theorem dX1_afterSimple_16 : decode cX1_afterSimple 16 = .ok (.istore 4, 2) := by decide +kernel
theorem dX1_afterSimple_18 : decode cX1_afterSimple 18 = .ok (.aload_n 0, 1) := by decide +kernel
theorem dX1_afterSimple_19 : decode cX1_afterSimple 19 = .ok (.getfield 21, 3) := by decide +kernel
theorem dX1_afterSimple_22 : decode cX1_afterSimple 22 = .ok (.iload_n 1, 1) := by decide +kernel
theorem dX1_afterSimple_23 : decode cX1_afterSimple 23 = .ok (.iaload, 1) := by decide +kernel
theorem dX1_afterSimple_24 : decode cX1_afterSimple 24 = .ok (.istore 5, 2) := by decide +kernel
theorem dX1_afterSimple_26 : decode cX1_afterSimple 26 = .ok (.iload_n 2, 1) := by decide +kernel
theorem dX1_afterSimple_27 : decode cX1_afterSimple 27 = .ok (.iload 4, 2) := by decide +kernel
theorem dX1_afterSimple_29 : decode cX1_afterSimple 29 = .ok (.invokestatic 60, 3) := by decide +kernel
theorem dX1_afterSimple_32 : decode cX1_afterSimple 32 = .ok (.istore 6, 2) := by decide +kernel
theorem dX1_afterSimple_34 : decode cX1_afterSimple 34 = .ok (.aload_n 0, 1) := by decide +kernel
theorem dX1_afterSimple_35 : decode cX1_afterSimple 35 = .ok (.getfield 9, 3) := by decide +kernel
theorem dX1_afterSimple_38 : decode cX1_afterSimple 38 = .ok (.iload_n 1, 1) := by decide +kernel
theorem dX1_afterSimple_39 : decode cX1_afterSimple 39 = .ok (.iaload, 1) := by decide +kernel
theorem dX1_afterSimple_40 : decode cX1_afterSimple 40 = .ok (.ifCond .ne 26, 3) := by decide +kernel
theorem dX1_afterSimple_43 : decode cX1_afterSimple 43 = .ok (.iload 6, 2) := by decide +kernel
theorem dX1_afterSimple_45 : decode cX1_afterSimple 45 = .ok (.iconst (-1), 1) := by decide +kernel
theorem dX1_afterSimple_46 : decode cX1_afterSimple 46 = .ok (.if_icmp .eq 7, 3) := by decide +kernel
theorem dX1_afterSimple_49 : decode cX1_afterSimple 49 = .ok (.iconst (-1), 1) := by decide +kernel
theorem dX1_afterSimple_50 : decode cX1_afterSimple 50 = .ok (.goto 15, 3) := by decide +kernel
theorem dX1_afterSimple_53 : decode cX1_afterSimple 53 = .ok (.iload_n 2, 1) := by decide +kernel
theorem dX1_afterSimple_54 : decode cX1_afterSimple 54 = .ok (.iload 4, 2) := by decide +kernel
theorem dX1_afterSimple_56 : decode cX1_afterSimple 56 = .ok (.iload 5, 2) := by decide +kernel
theorem dX1_afterSimple_58 : decode cX1_afterSimple 58 = .ok (.iconst 0, 1) := by decide +kernel
theorem dX1_afterSimple_59 : decode cX1_afterSimple 59 = .ok (.invokestatic 64, 3) := by decide +kernel
theorem dX1_afterSimple_62 : decode cX1_afterSimple 62 = .ok (.invokestatic 67, 3) := by decide +kernel
theorem dX1_afterSimple_65 : decode cX1_afterSimple 65 = .ok (.ireturn, 1) := by decide +kernel
theorem dX1_afterSimple_66 : decode cX1_afterSimple 66 = .ok (.iload 6, 2) := by decide +kernel
theorem dX1_afterSimple_68 : decode cX1_afterSimple 68 = .ok (.iconst (-1), 1) := by decide +kernel
theorem dX1_afterSimple_69 : decode cX1_afterSimple 69 = .ok (.if_icmp .ne 6, 3) := by decide +kernel
theorem dX1_afterSimple_72 : decode cX1_afterSimple 72 = .ok (.bipush (-2), 2) := by decide +kernel
theorem dX1_afterSimple_74 : decode cX1_afterSimple 74 = .ok (.ireturn, 1) := by decide +kernel
theorem dX1_afterSimple_75 : decode cX1_afterSimple 75 = .ok (.aload_n 0, 1) := by decide +kernel
theorem dX1_afterSimple_76 : decode cX1_afterSimple 76 = .ok (.getfield 9, 3) := by decide +kernel
theorem dX1_afterSimple_79 : decode cX1_afterSimple 79 = .ok (.iload_n 1, 1) := by decide +kernel
theorem dX1_afterSimple_80 : decode cX1_afterSimple 80 = .ok (.iaload, 1) := by decide +kernel
theorem dX1_afterSimple_81 : decode cX1_afterSimple 81 = .ok (.iconst 1, 1) := by decide +kernel
theorem dX1_afterSimple_82 : decode cX1_afterSimple 82 = .ok (.if_icmp .ne 41, 3) := by decide +kernel
theorem dX1_afterSimple_85 : decode cX1_afterSimple 85 = .ok (.aload_n 3, 1) := by decide +kernel
theorem dX1_afterSimple_86 : decode cX1_afterSimple 86 = .ok (.iload 6, 2) := by decide +kernel
theorem dX1_afterSimple_88 : decode cX1_afterSimple 88 = .ok (.iload 5, 2) := by decide +kernel
theorem dX1_afterSimple_90 : decode cX1_afterSimple 90 = .ok (.invokevirtual 71, 3) := by decide +kernel
theorem dX1_afterSimple_93 : decode cX1_afterSimple 93 = .ok (.istore 7, 2) := by decide +kernel
theorem dX1_afterSimple_95 : decode cX1_afterSimple 95 = .ok (.iload 7, 2) := by decide +kernel
theorem dX1_afterSimple_97 : decode cX1_afterSimple 97 = .ok (.iconst (-1), 1) := by decide +kernel
theorem dX1_afterSimple_98 : decode cX1_afterSimple 98 = .ok (.if_icmp .ne 8, 3) := by decide +kernel
theorem dX1_afterSimple_101 : decode cX1_afterSimple 101 = .ok (.bipush (-3), 2) := by decide +kernel
theorem dX1_afterSimple_103 : decode cX1_afterSimple 103 = .ok (.goto 19, 3) := by decide +kernel
theorem dX1_afterSimple_106 : decode cX1_afterSimple 106 = .ok (.iload_n 2, 1) := by decide +kernel
theorem dX1_afterSimple_107 : decode cX1_afterSimple 107 = .ok (.iload 4, 2) := by decide +kernel
theorem dX1_afterSimple_109 : decode cX1_afterSimple 109 = .ok (.iload 6, 2) := by decide +kernel
theorem dX1_afterSimple_111 : decode cX1_afterSimple 111 = .ok (.invokestatic 76, 3) := by decide +kernel
theorem dX1_afterSimple_114 : decode cX1_afterSimple 114 = .ok (.iload 7, 2) := by decide +kernel
theorem dX1_afterSimple_116 : decode cX1_afterSimple 116 = .ok (.invokestatic 64, 3) := by decide +kernel
theorem dX1_afterSimple_119 : decode cX1_afterSimple 119 = .ok (.invokestatic 67, 3) := by decide +kernel
theorem dX1_afterSimple_122 : decode cX1_afterSimple 122 = .ok (.ireturn, 1) := by decide +kernel
theorem dX1_afterSimple_123 : decode cX1_afterSimple 123 = .ok (.aload_n 0, 1) := by decide +kernel
theorem dX1_afterSimple_124 : decode cX1_afterSimple 124 = .ok (.getfield 9, 3) := by decide +kernel
theorem dX1_afterSimple_127 : decode cX1_afterSimple 127 = .ok (.iload_n 1, 1) := by decide +kernel
theorem dX1_afterSimple_128 : decode cX1_afterSimple 128 = .ok (.iaload, 1) := by decide +kernel
theorem dX1_afterSimple_129 : decode cX1_afterSimple 129 = .ok (.iconst 2, 1) := by decide +kernel
theorem dX1_afterSimple_130 : decode cX1_afterSimple 130 = .ok (.if_icmp .ne 32, 3) := by decide +kernel
theorem dX1_afterSimple_133 : decode cX1_afterSimple 133 = .ok (.iload_n 2, 1) := by decide +kernel
theorem dX1_afterSimple_134 : decode cX1_afterSimple 134 = .ok (.iload 5, 2) := by decide +kernel
theorem dX1_afterSimple_136 : decode cX1_afterSimple 136 = .ok (.invokestatic 60, 3) := by decide +kernel
theorem dX1_afterSimple_139 : decode cX1_afterSimple 139 = .ok (.iconst (-1), 1) := by decide +kernel
theorem dX1_afterSimple_140 : decode cX1_afterSimple 140 = .ok (.if_icmp .eq 7, 3) := by decide +kernel
theorem dX1_afterSimple_143 : decode cX1_afterSimple 143 = .ok (.iconst (-1), 1) := by decide +kernel
theorem dX1_afterSimple_144 : decode cX1_afterSimple 144 = .ok (.goto 17, 3) := by decide +kernel
theorem dX1_afterSimple_147 : decode cX1_afterSimple 147 = .ok (.iload_n 2, 1) := by decide +kernel
theorem dX1_afterSimple_148 : decode cX1_afterSimple 148 = .ok (.iload 4, 2) := by decide +kernel
theorem dX1_afterSimple_150 : decode cX1_afterSimple 150 = .ok (.iconst (-1), 1) := by decide +kernel
theorem dX1_afterSimple_151 : decode cX1_afterSimple 151 = .ok (.invokestatic 67, 3) := by decide +kernel
theorem dX1_afterSimple_154 : decode cX1_afterSimple 154 = .ok (.iload 5, 2) := by decide +kernel
theorem dX1_afterSimple_156 : decode cX1_afterSimple 156 = .ok (.iload 6, 2) := by decide +kernel
theorem dX1_afterSimple_158 : decode cX1_afterSimple 158 = .ok (.invokestatic 67, 3) := by decide +kernel
theorem dX1_afterSimple_161 : decode cX1_afterSimple 161 = .ok (.ireturn, 1) := by decide +kernel
theorem dX1_afterSimple_162 : decode cX1_afterSimple 162 = .ok (.aload_n 3, 1) := by decide +kernel
theorem dX1_afterSimple_163 : decode cX1_afterSimple 163 = .ok (.iload 6, 2) := by decide +kernel
theorem dX1_afterSimple_165 : decode cX1_afterSimple 165 = .ok (.invokevirtual 80, 3) := by decide +kernel
theorem dX1_afterSimple_168 : decode cX1_afterSimple 168 = .ok (.ifCond .eq 13, 3) := by decide +kernel
theorem dX1_afterSimple_171 : decode cX1_afterSimple 171 = .ok (.iload_n 2, 1) := by decide +kernel
theorem dX1_afterSimple_172 : decode cX1_afterSimple 172 = .ok (.iload 4, 2) := by decide +kernel
theorem dX1_afterSimple_174 : decode cX1_afterSimple 174 = .ok (.iconst (-1), 1) := by decide +kernel
theorem dX1_afterSimple_175 : decode cX1_afterSimple 175 = .ok (.invokestatic 67, 3) := by decide +kernel
theorem dX1_afterSimple_178 : decode cX1_afterSimple 178 = .ok (.goto 5, 3) := by decide +kernel
theorem dX1_afterSimple_181 : decode cX1_afterSimple 181 = .ok (.bipush (-4), 2) := by decide +kernel
theorem dX1_afterSimple_183 : decode cX1_afterSimple 183 = .ok (.ireturn, 1) := by decide +kernel
theorem dJ7_fill_53178_0 : decode cJ7_fill_53178 0 = .ok (.iconst 0, 1) := by decide +kernel
theorem dJ7_fill_53178_1 : decode cJ7_fill_53178 1 = .ok (.istore_n 2, 1) := by decide +kernel
theorem dJ7_fill_53178_2 : decode cJ7_fill_53178 2 = .ok (.aload_n 0, 1) := by decide +kernel
theorem dJ7_fill_53178_3 : decode cJ7_fill_53178 3 = .ok (.arraylength, 1) := by decide +kernel
theorem dJ7_fill_53178_4 : decode cJ7_fill_53178 4 = .ok (.istore_n 3, 1) := by decide +kernel
theorem dJ7_fill_53178_5 : decode cJ7_fill_53178 5 = .ok (.iload_n 2, 1) := by decide +kernel
theorem dJ7_fill_53178_6 : decode cJ7_fill_53178 6 = .ok (.iload_n 3, 1) := by decide +kernel
theorem dJ7_fill_53178_7 : decode cJ7_fill_53178 7 = .ok (.if_icmp .ge 13, 3) := by decide +kernel
theorem dJ7_fill_53178_10 : decode cJ7_fill_53178 10 = .ok (.aload_n 0, 1) := by decide +kernel
theorem dJ7_fill_53178_11 : decode cJ7_fill_53178 11 = .ok (.iload_n 2, 1) := by decide +kernel
theorem dJ7_fill_53178_12 : decode cJ7_fill_53178 12 = .ok (.iload_n 1, 1) := by decide +kernel
theorem dJ7_fill_53178_13 : decode cJ7_fill_53178 13 = .ok (.iastore, 1) := by decide +kernel
theorem dJ7_fill_53178_14 : decode cJ7_fill_53178 14 = .ok (.iinc 2 1, 3) := by decide +kernel
theorem dJ7_fill_53178_17 : decode cJ7_fill_53178 17 = .ok (.goto (-12), 3) := by decide +kernel
theorem dJ7_fill_53178_20 : decode cJ7_fill_53178 20 = .ok (.return_, 1) := by decide +kernel
end
section
set_option maxRecDepth 20000 in
theorem ggX2_init_J7_fill_53178 : GoodIn wsX2_init wsJ7_fill_53178 := goodIn_r _ [11] (by decide +kernel) (by decide +kernel)
set_option maxRecDepth 20000 in
theorem gX2_init_J7_fill_53178 : GoodIn wsX2_init (va_wsS RX2 19 yJ7_fill_53178 wsJ7_fill_53178) := goodIn_app (goodIn_of _ (by decide +kernel)) ggX2_init_J7_fill_53178
theorem dX2_init_0 : decode cX2_init 0 = .ok (.aload_n 0, 1) := by decide +kernel
theorem dX2_init_1 : decode cX2_init 1 = .ok (.invokespecial 3, 3) := by decide +kernel
theorem dX2_init_4 : decode cX2_init 4 = .ok (.aload_n 0, 1) := by decide +kernel
theorem dX2_init_5 : decode cX2_init 5 = .ok (.bipush 96, 2) := by decide +kernel
theorem dX2_init_7 : decode cX2_init 7 = .ok (.newarray .int, 2) := by decide +kernel
theorem dX2_init_9 : decode cX2_init 9 = .ok (.putfield 9, 3) := by decide +kernel
theorem dX2_init_12 : decode cX2_init 12 = .ok (.aload_n 0, 1) := by decide +kernel
theorem dX2_init_13 : decode cX2_init 13 = .ok (.bipush 24, 2) := by decide +kernel
theorem dX2_init_15 : decode cX2_init 15 = .ok (.newarray .boolean, 2) := by decide +kernel
theorem dX2_init_17 : decode cX2_init 17 = .ok (.putfield 15, 3) := by decide +kernel
theorem dX2_init_20 : decode cX2_init 20 = .ok (.aload_n 0, 1) := by decide +kernel
theorem dX2_init_21 : decode cX2_init 21 = .ok (.getfield 9, 3) := by decide +kernel
theorem dX2_init_24 : decode cX2_init 24 = .ok (.iconst (-1), 1) := by decide +kernel
theorem dX2_init_25 : decode cX2_init 25 = .ok (.invokestatic 19, 3) := by decide +kernel
theorem dX2_init_28 : decode cX2_init 28 = .ok (.return_, 1) := by decide +kernel
set_option maxRecDepth 20000 in
theorem ggX2_setTarget_X4_isBelow : GoodIn wsX2_setTarget wsX4_isBelow := goodIn_r _ [4] (by decide +kernel) (by decide +kernel)
set_option maxRecDepth 20000 in
theorem gX2_setTarget_X4_isBelow_n25 : GoodIn wsX2_setTarget (wsX4_isBelow) := ggX2_setTarget_X4_isBelow
theorem dX2_setTarget_0 : decode cX2_setTarget 0 = .ok (.iload_n 1, 1) := by decide +kernel
theorem dX2_setTarget_1 : decode cX2_setTarget 1 = .ok (.bipush 24, 2) := by decide +kernel
theorem dX2_setTarget_3 : decode cX2_setTarget 3 = .ok (.invokestatic 25, 3) := by decide +kernel
theorem dX2_setTarget_6 : decode cX2_setTarget 6 = .ok (.ifCond .eq 15, 3) := by decide +kernel
theorem dX2_setTarget_9 : decode cX2_setTarget 9 = .ok (.iload_n 2, 1) := by decide +kernel
theorem dX2_setTarget_10 : decode cX2_setTarget 10 = .ok (.iconst 4, 1) := by decide +kernel
theorem dX2_setTarget_11 : decode cX2_setTarget 11 = .ok (.invokestatic 25, 3) := by decide +kernel
theorem dX2_setTarget_14 : decode cX2_setTarget 14 = .ok (.ifCond .eq 7, 3) := by decide +kernel
theorem dX2_setTarget_17 : decode cX2_setTarget 17 = .ok (.iconst 1, 1) := by decide +kernel
theorem dX2_setTarget_18 : decode cX2_setTarget 18 = .ok (.goto 4, 3) := by decide +kernel
theorem dX2_setTarget_21 : decode cX2_setTarget 21 = .ok (.iconst 0, 1) := by decide +kernel
theorem dX2_setTarget_22 : decode cX2_setTarget 22 = .ok (.istore 4, 2) := by decide +kernel
theorem dX2_setTarget_24 : decode cX2_setTarget 24 = .ok (.iload 4, 2) := by decide +kernel
theorem dX2_setTarget_26 : decode cX2_setTarget 26 = .ok (.ifCond .eq 14, 3) := by decide +kernel
theorem dX2_setTarget_29 : decode cX2_setTarget 29 = .ok (.aload_n 0, 1) := by decide +kernel
theorem dX2_setTarget_30 : decode cX2_setTarget 30 = .ok (.getfield 9, 3) := by decide +kernel
theorem dX2_setTarget_33 : decode cX2_setTarget 33 = .ok (.iload_n 1, 1) := by decide +kernel
theorem dX2_setTarget_34 : decode cX2_setTarget 34 = .ok (.iconst 4, 1) := by decide +kernel
theorem dX2_setTarget_35 : decode cX2_setTarget 35 = .ok (.imul, 1) := by decide +kernel
theorem dX2_setTarget_36 : decode cX2_setTarget 36 = .ok (.iload_n 2, 1) := by decide +kernel
theorem dX2_setTarget_37 : decode cX2_setTarget 37 = .ok (.iadd, 1) := by decide +kernel
theorem dX2_setTarget_38 : decode cX2_setTarget 38 = .ok (.iload_n 3, 1) := by decide +kernel
theorem dX2_setTarget_39 : decode cX2_setTarget 39 = .ok (.iastore, 1) := by decide +kernel
theorem dX2_setTarget_40 : decode cX2_setTarget 40 = .ok (.iload 4, 2) := by decide +kernel
theorem dX2_setTarget_42 : decode cX2_setTarget 42 = .ok (.ireturn, 1) := by decide +kernel
set_option maxRecDepth 20000 in
theorem ggX2_setFinal_X4_isBelow : GoodIn wsX2_setFinal wsX4_isBelow := goodIn_r _ [4] (by decide +kernel) (by decide +kernel)
set_option maxRecDepth 20000 in
theorem gX2_setFinal_X4_isBelow_n25 : GoodIn wsX2_setFinal (wsX4_isBelow) := ggX2_setFinal_X4_isBelow
theorem dX2_setFinal_0 : decode cX2_setFinal 0 = .ok (.iload_n 1, 1) := by decide +kernel
theorem dX2_setFinal_1 : decode cX2_setFinal 1 = .ok (.bipush 24, 2) := by decide +kernel
theorem dX2_setFinal_3 : decode cX2_setFinal 3 = .ok (.invokestatic 25, 3) := by decide +kernel
theorem dX2_setFinal_6 : decode cX2_setFinal 6 = .ok (.istore_n 3, 1) := by decide +kernel
theorem dX2_setFinal_7 : decode cX2_setFinal 7 = .ok (.iload_n 3, 1) := by decide +kernel
theorem dX2_setFinal_8 : decode cX2_setFinal 8 = .ok (.ifCond .eq 10, 3) := by decide +kernel
theorem dX2_setFinal_11 : decode cX2_setFinal 11 = .ok (.aload_n 0, 1) := by decide +kernel
theorem dX2_setFinal_12 : decode cX2_setFinal 12 = .ok (.getfield 15, 3) := by decide +kernel
theorem dX2_setFinal_15 : decode cX2_setFinal 15 = .ok (.iload_n 1, 1) := by decide +kernel
theorem dX2_setFinal_16 : decode cX2_setFinal 16 = .ok (.iload_n 2, 1) := by decide +kernel
theorem dX2_setFinal_17 : decode cX2_setFinal 17 = .ok (.bastore, 1) := by decide +kernel
theorem dX2_setFinal_18 : decode cX2_setFinal 18 = .ok (.iload_n 3, 1) := by decide +kernel
theorem dX2_setFinal_19 : decode cX2_setFinal 19 = .ok (.ireturn, 1) := by decide +kernel
set_option maxRecDepth 20000 in
theorem ggX2_targetOf_X4_isBelow : GoodIn wsX2_targetOf wsX4_isBelow := goodIn_r _ [4] (by decide +kernel) (by decide +kernel)
set_option maxRecDepth 20000 in
theorem gX2_targetOf_X4_isBelow_n25 : GoodIn wsX2_targetOf (wsX4_isBelow) := ggX2_targetOf_X4_isBelow
theorem dX2_targetOf_0 : decode cX2_targetOf 0 = .ok (.iload_n 1, 1) := by decide +kernel
theorem dX2_targetOf_1 : decode cX2_targetOf 1 = .ok (.bipush 24, 2) := by decide +kernel
theorem dX2_targetOf_3 : decode cX2_targetOf 3 = .ok (.invokestatic 25, 3) := by decide +kernel
theorem dX2_targetOf_6 : decode cX2_targetOf 6 = .ok (.ifCond .eq 24, 3) := by decide +kernel
theorem dX2_targetOf_9 : decode cX2_targetOf 9 = .ok (.iload_n 2, 1) := by decide +kernel
theorem dX2_targetOf_10 : decode cX2_targetOf 10 = .ok (.iconst 4, 1) := by decide +kernel
theorem dX2_targetOf_11 : decode cX2_targetOf 11 = .ok (.invokestatic 25, 3) := by decide +kernel
theorem dX2_targetOf_14 : decode cX2_targetOf 14 = .ok (.ifCond .eq 16, 3) := by decide +kernel
theorem dX2_targetOf_17 : decode cX2_targetOf 17 = .ok (.aload_n 0, 1) := by decide +kernel
theorem dX2_targetOf_18 : decode cX2_targetOf 18 = .ok (.getfield 9, 3) := by decide +kernel
theorem dX2_targetOf_21 : decode cX2_targetOf 21 = .ok (.iload_n 1, 1) := by decide +kernel
theorem dX2_targetOf_22 : decode cX2_targetOf 22 = .ok (.iconst 4, 1) := by decide +kernel
theorem dX2_targetOf_23 : decode cX2_targetOf 23 = .ok (.imul, 1) := by decide +kernel
theorem dX2_targetOf_24 : decode cX2_targetOf 24 = .ok (.iload_n 2, 1) := by decide +kernel
theorem dX2_targetOf_25 : decode cX2_targetOf 25 = .ok (.iadd, 1) := by decide +kernel
theorem dX2_targetOf_26 : decode cX2_targetOf 26 = .ok (.iaload, 1) := by decide +kernel
theorem dX2_targetOf_27 : decode cX2_targetOf 27 = .ok (.goto 4, 3) := by decide +kernel
theorem dX2_targetOf_30 : decode cX2_targetOf 30 = .ok (.iconst (-1), 1) := by decide +kernel
theorem dX2_targetOf_31 : decode cX2_targetOf 31 = .ok (.ireturn, 1) := by decide +kernel
set_option maxRecDepth 20000 in
theorem ggX2_mayBeLeft_X4_isBelow : GoodIn wsX2_mayBeLeft wsX4_isBelow := goodIn_r _ [4] (by decide +kernel) (by decide +kernel)
set_option maxRecDepth 20000 in
theorem gX2_mayBeLeft_X4_isBelow_n25 : GoodIn wsX2_mayBeLeft (wsX4_isBelow) := ggX2_mayBeLeft_X4_isBelow
theorem dX2_mayBeLeft_0 : decode cX2_mayBeLeft 0 = .ok (.iload_n 1, 1) := by decide +kernel
theorem dX2_mayBeLeft_1 : decode cX2_mayBeLeft 1 = .ok (.bipush 24, 2) := by decide +kernel
theorem dX2_mayBeLeft_3 : decode cX2_mayBeLeft 3 = .ok (.invokestatic 25, 3) := by decide +kernel
theorem dX2_mayBeLeft_6 : decode cX2_mayBeLeft 6 = .ok (.ifCond .eq 16, 3) := by decide +kernel
theorem dX2_mayBeLeft_9 : decode cX2_mayBeLeft 9 = .ok (.aload_n 0, 1) := by decide +kernel
theorem dX2_mayBeLeft_10 : decode cX2_mayBeLeft 10 = .ok (.getfield 15, 3) := by decide +kernel
theorem dX2_mayBeLeft_13 : decode cX2_mayBeLeft 13 = .ok (.iload_n 1, 1) := by decide +kernel
theorem dX2_mayBeLeft_14 : decode cX2_mayBeLeft 14 = .ok (.baload, 1) := by decide +kernel
theorem dX2_mayBeLeft_15 : decode cX2_mayBeLeft 15 = .ok (.ifCond .eq 7, 3) := by decide +kernel
theorem dX2_mayBeLeft_18 : decode cX2_mayBeLeft 18 = .ok (.iconst 1, 1) := by decide +kernel
theorem dX2_mayBeLeft_19 : decode cX2_mayBeLeft 19 = .ok (.goto 4, 3) := by decide +kernel
theorem dX2_mayBeLeft_22 : decode cX2_mayBeLeft 22 = .ok (.iconst 0, 1) := by decide +kernel
theorem dX2_mayBeLeft_23 : decode cX2_mayBeLeft 23 = .ok (.ireturn, 1) := by decide +kernel
set_option maxRecDepth 20000 in
theorem ggX2_faultOfLeaving_X4_heldBy : GoodIn wsX2_faultOfLeaving wsX4_heldBy := goodIn_r _ [3] (by decide +kernel) (by decide +kernel)
set_option maxRecDepth 20000 in
theorem gX2_faultOfLeaving_X4_heldBy_n29 : GoodIn wsX2_faultOfLeaving (wsX4_heldBy) := ggX2_faultOfLeaving_X4_heldBy
set_option maxRecDepth 20000 in
theorem ggX2_faultOfLeaving_X2_mayBeLeft : GoodIn wsX2_faultOfLeaving wsX2_mayBeLeft := goodIn_r _ [8, 9, 10, 2, 11, 12, 13] (by decide +kernel) (by decide +kernel)
set_option maxRecDepth 20000 in
theorem gX2_faultOfLeaving_X2_mayBeLeft : GoodIn wsX2_faultOfLeaving (wsV RX2 33 RX2 yX2_mayBeLeft wsX2_mayBeLeft) := goodIn_app (goodIn_of _ (by decide +kernel)) ggX2_faultOfLeaving_X2_mayBeLeft
theorem dX2_faultOfLeaving_0 : decode cX2_faultOfLeaving 0 = .ok (.iconst 0, 1) := by decide +kernel
theorem dX2_faultOfLeaving_1 : decode cX2_faultOfLeaving 1 = .ok (.istore_n 2, 1) := by decide +kernel
theorem dX2_faultOfLeaving_2 : decode cX2_faultOfLeaving 2 = .ok (.iload_n 2, 1) := by decide +kernel
theorem dX2_faultOfLeaving_3 : decode cX2_faultOfLeaving 3 = .ok (.iconst 4, 1) := by decide +kernel
theorem dX2_faultOfLeaving_4 : decode cX2_faultOfLeaving 4 = .ok (.if_icmp .ge 31, 3) := by decide +kernel
theorem dX2_faultOfLeaving_7 : decode cX2_faultOfLeaving 7 = .ok (.iload_n 1, 1) := by decide +kernel
theorem dX2_faultOfLeaving_8 : decode cX2_faultOfLeaving 8 = .ok (.iload_n 2, 1) := by decide +kernel
theorem dX2_faultOfLeaving_9 : decode cX2_faultOfLeaving 9 = .ok (.invokestatic 29, 3) := by decide +kernel
theorem dX2_faultOfLeaving_12 : decode cX2_faultOfLeaving 12 = .ok (.istore_n 3, 1) := by decide +kernel
theorem dX2_faultOfLeaving_13 : decode cX2_faultOfLeaving 13 = .ok (.iload_n 3, 1) := by decide +kernel
theorem dX2_faultOfLeaving_14 : decode cX2_faultOfLeaving 14 = .ok (.iconst (-1), 1) := by decide +kernel
theorem dX2_faultOfLeaving_15 : decode cX2_faultOfLeaving 15 = .ok (.if_icmp .eq 14, 3) := by decide +kernel
theorem dX2_faultOfLeaving_18 : decode cX2_faultOfLeaving 18 = .ok (.aload_n 0, 1) := by decide +kernel
theorem dX2_faultOfLeaving_19 : decode cX2_faultOfLeaving 19 = .ok (.iload_n 3, 1) := by decide +kernel
theorem dX2_faultOfLeaving_20 : decode cX2_faultOfLeaving 20 = .ok (.invokevirtual 33, 3) := by decide +kernel
theorem dX2_faultOfLeaving_23 : decode cX2_faultOfLeaving 23 = .ok (.ifCond .ne 6, 3) := by decide +kernel
theorem dX2_faultOfLeaving_26 : decode cX2_faultOfLeaving 26 = .ok (.bipush 7, 2) := by decide +kernel
theorem dX2_faultOfLeaving_28 : decode cX2_faultOfLeaving 28 = .ok (.ireturn, 1) := by decide +kernel
theorem dX2_faultOfLeaving_29 : decode cX2_faultOfLeaving 29 = .ok (.iinc 2 1, 3) := by decide +kernel
theorem dX2_faultOfLeaving_32 : decode cX2_faultOfLeaving 32 = .ok (.goto (-30), 3) := by decide +kernel
theorem dX2_faultOfLeaving_35 : decode cX2_faultOfLeaving 35 = .ok (.iconst 0, 1) := by decide +kernel
theorem dX2_faultOfLeaving_36 : decode cX2_faultOfLeaving 36 = .ok (.ireturn, 1) := by decide +kernel
theorem dX3_init_0 : decode cX3_init 0 = .ok (.aload_n 0, 1) := by decide +kernel
theorem dX3_init_1 : decode cX3_init 1 = .ok (.invokespecial 3, 3) := by decide +kernel
theorem dX3_init_4 : decode cX3_init 4 = .ok (.aload_n 0, 1) := by decide +kernel
theorem dX3_init_5 : decode cX3_init 5 = .ok (.aload_n 1, 1) := by decide +kernel
theorem dX3_init_6 : decode cX3_init 6 = .ok (.putfield 9, 3) := by decide +kernel
theorem dX3_init_9 : decode cX3_init 9 = .ok (.aload_n 0, 1) := by decide +kernel
theorem dX3_init_10 : decode cX3_init 10 = .ok (.aload_n 2, 1) := by decide +kernel
theorem dX3_init_11 : decode cX3_init 11 = .ok (.putfield 15, 3) := by decide +kernel
theorem dX3_init_14 : decode cX3_init 14 = .ok (.aload_n 0, 1) := by decide +kernel
theorem dX3_init_15 : decode cX3_init 15 = .ok (.iconst 0, 1) := by decide +kernel
theorem dX3_init_16 : decode cX3_init 16 = .ok (.putfield 19, 3) := by decide +kernel
theorem dX3_init_19 : decode cX3_init 19 = .ok (.aload_n 0, 1) := by decide +kernel
theorem dX3_init_20 : decode cX3_init 20 = .ok (.iconst (-1), 1) := by decide +kernel
theorem dX3_init_21 : decode cX3_init 21 = .ok (.putfield 23, 3) := by decide +kernel
theorem dX3_init_24 : decode cX3_init 24 = .ok (.aload_n 0, 1) := by decide +kernel
theorem dX3_init_25 : decode cX3_init 25 = .ok (.iconst 0, 1) := by decide +kernel
theorem dX3_init_26 : decode cX3_init 26 = .ok (.putfield 26, 3) := by decide +kernel
theorem dX3_init_29 : decode cX3_init 29 = .ok (.return_, 1) := by decide +kernel
set_option maxRecDepth 20000 in
theorem ggX3_runProgram_X1_hasEntry : GoodIn wsX3_runProgram wsX1_hasEntry := goodIn_r _ [14, 15, 16, 17, 18, 72, 73, 74, 75, 76, 77, 78, 79, 80] (by decide +kernel) (by decide +kernel)
set_option maxRecDepth 20000 in
theorem gX3_runProgram_X1_hasEntry : GoodIn wsX3_runProgram (wsV RX3 39 RX1 yX1_hasEntry wsX1_hasEntry) := goodIn_app (goodIn_of _ (by decide +kernel)) ggX3_runProgram_X1_hasEntry
set_option maxRecDepth 20000 in
theorem ggX3_runProgram_X3_doEntry : GoodIn wsX3_runProgram wsX3_doEntry := goodIn_r _ [23, 8, 24, 25, 26, 22, 27, 3, 6, 5, 28, 29, 30, 31, 4, 9, 1, 2, 32, 33, 34, 13, 35, 36, 37, 38, 39, 11, 12, 14, 15, 16, 17, 18, 40, 41, 42, 43, 44, 45, 46, 47, 48, 49, 50, 51, 52, 53, 54, 55, 56, 57, 58, 64, 65, 66, 67, 68, 69, 70, 71, 72, 73, 74, 75, 76, 77, 78, 79, 80, 81, 82] (by decide +kernel) (by decide +kernel)
set_option maxRecDepth 20000 in
theorem gX3_runProgram_X3_doEntry : GoodIn wsX3_runProgram (wsV RX3 45 RX3 yX3_doEntry wsX3_doEntry) := goodIn_app (goodIn_of _ (by decide +kernel)) ggX3_runProgram_X3_doEntry
set_option maxRecDepth 20000 in
theorem ggX3_runProgram_X2_faultOfLeaving : GoodIn wsX3_runProgram wsX2_faultOfLeaving := goodIn_r _ [62, 40, 17, 41, 63, 55, 56, 49, 57, 58, 16, 18, 81, 82] (by decide +kernel) (by decide +kernel)
set_option maxRecDepth 20000 in
theorem gX3_runProgram_X2_faultOfLeaving : GoodIn wsX3_runProgram (wsV RX3 49 RX2 yX2_faultOfLeaving wsX2_faultOfLeaving) := goodIn_app (goodIn_of _ (by decide +kernel)) ggX3_runProgram_X2_faultOfLeaving
theorem dX3_runProgram_0 : decode cX3_runProgram 0 = .ok (.aload_n 0, 1) := by decide +kernel
theorem dX3_runProgram_1 : decode cX3_runProgram 1 = .ok (.iconst 0, 1) := by decide +kernel
theorem dX3_runProgram_2 : decode cX3_runProgram 2 = .ok (.putfield 19, 3) := by decide +kernel
theorem dX3_runProgram_5 : decode cX3_runProgram 5 = .ok (.aload_n 0, 1) := by decide +kernel
theorem dX3_runProgram_6 : decode cX3_runProgram 6 = .ok (.iconst (-1), 1) := by decide +kernel
theorem dX3_runProgram_7 : decode cX3_runProgram 7 = .ok (.putfield 23, 3) := by decide +kernel
theorem dX3_runProgram_10 : decode cX3_runProgram 10 = .ok (.aload_n 0, 1) := by decide +kernel
theorem dX3_runProgram_11 : decode cX3_runProgram 11 = .ok (.iconst 0, 1) := by decide +kernel
theorem dX3_runProgram_12 : decode cX3_runProgram 12 = .ok (.putfield 29, 3) := by decide +kernel
theorem dX3_runProgram_15 : decode cX3_runProgram 15 = .ok (.aload_n 0, 1) := by decide +kernel
theorem dX3_runProgram_16 : decode cX3_runProgram 16 = .ok (.iconst 0, 1) := by decide +kernel
theorem dX3_runProgram_17 : decode cX3_runProgram 17 = .ok (.putfield 26, 3) := by decide +kernel
theorem dX3_runProgram_20 : decode cX3_runProgram 20 = .ok (.aload_n 0, 1) := by decide +kernel
theorem dX3_runProgram_21 : decode cX3_runProgram 21 = .ok (.iload_n 1, 1) := by decide +kernel
theorem dX3_runProgram_22 : decode cX3_runProgram 22 = .ok (.putfield 32, 3) := by decide +kernel
theorem dX3_runProgram_25 : decode cX3_runProgram 25 = .ok (.aload_n 0, 1) := by decide +kernel
theorem dX3_runProgram_26 : decode cX3_runProgram 26 = .ok (.iload_n 2, 1) := by decide +kernel
theorem dX3_runProgram_27 : decode cX3_runProgram 27 = .ok (.putfield 35, 3) := by decide +kernel
theorem dX3_runProgram_30 : decode cX3_runProgram 30 = .ok (.iconst 0, 1) := by decide +kernel
theorem dX3_runProgram_31 : decode cX3_runProgram 31 = .ok (.istore_n 3, 1) := by decide +kernel
theorem dX3_runProgram_32 : decode cX3_runProgram 32 = .ok (.iconst 0, 1) := by decide +kernel
theorem dX3_runProgram_33 : decode cX3_runProgram 33 = .ok (.istore 4, 2) := by decide +kernel
theorem dX3_runProgram_35 : decode cX3_runProgram 35 = .ok (.iload 4, 2) := by decide +kernel
theorem dX3_runProgram_37 : decode cX3_runProgram 37 = .ok (.ldc 38, 2) := by decide +kernel
theorem dX3_runProgram_39 : decode cX3_runProgram 39 = .ok (.if_icmp .ge 34, 3) := by decide +kernel
theorem dX3_runProgram_42 : decode cX3_runProgram 42 = .ok (.aload_n 0, 1) := by decide +kernel
theorem dX3_runProgram_43 : decode cX3_runProgram 43 = .ok (.getfield 9, 3) := by decide +kernel
theorem dX3_runProgram_46 : decode cX3_runProgram 46 = .ok (.iload_n 3, 1) := by decide +kernel
theorem dX3_runProgram_47 : decode cX3_runProgram 47 = .ok (.invokevirtual 39, 3) := by decide +kernel
theorem dX3_runProgram_50 : decode cX3_runProgram 50 = .ok (.ifCond .eq 23, 3) := by decide +kernel
theorem dX3_runProgram_53 : decode cX3_runProgram 53 = .ok (.aload_n 0, 1) := by decide +kernel
theorem dX3_runProgram_54 : decode cX3_runProgram 54 = .ok (.iload_n 3, 1) := by decide +kernel
theorem dX3_runProgram_55 : decode cX3_runProgram 55 = .ok (.invokevirtual 45, 3) := by decide +kernel
theorem dX3_runProgram_58 : decode cX3_runProgram 58 = .ok (.istore_n 3, 1) := by decide +kernel
theorem dX3_runProgram_59 : decode cX3_runProgram 59 = .ok (.aload_n 0, 1) := by decide +kernel
theorem dX3_runProgram_60 : decode cX3_runProgram 60 = .ok (.getfield 19, 3) := by decide +kernel
theorem dX3_runProgram_63 : decode cX3_runProgram 63 = .ok (.ifCond .eq 4, 3) := by decide +kernel
theorem dX3_runProgram_66 : decode cX3_runProgram 66 = .ok (.return_, 1) := by decide +kernel
theorem dX3_runProgram_67 : decode cX3_runProgram 67 = .ok (.iinc 4 1, 3) := by decide +kernel
theorem dX3_runProgram_70 : decode cX3_runProgram 70 = .ok (.goto (-35), 3) := by decide +kernel
theorem dX3_runProgram_73 : decode cX3_runProgram 73 = .ok (.aload_n 0, 1) := by decide +kernel
theorem dX3_runProgram_74 : decode cX3_runProgram 74 = .ok (.aload_n 0, 1) := by decide +kernel
theorem dX3_runProgram_75 : decode cX3_runProgram 75 = .ok (.getfield 15, 3) := by decide +kernel
theorem dX3_runProgram_78 : decode cX3_runProgram 78 = .ok (.aload_n 0, 1) := by decide +kernel
theorem dX3_runProgram_79 : decode cX3_runProgram 79 = .ok (.getfield 26, 3) := by decide +kernel
theorem dX3_runProgram_82 : decode cX3_runProgram 82 = .ok (.invokevirtual 49, 3) := by decide +kernel
theorem dX3_runProgram_85 : decode cX3_runProgram 85 = .ok (.putfield 19, 3) := by decide +kernel
theorem dX3_runProgram_88 : decode cX3_runProgram 88 = .ok (.aload_n 0, 1) := by decide +kernel
theorem dX3_runProgram_89 : decode cX3_runProgram 89 = .ok (.getfield 19, 3) := by decide +kernel
theorem dX3_runProgram_92 : decode cX3_runProgram 92 = .ok (.ifCond .eq 14, 3) := by decide +kernel
theorem dX3_runProgram_95 : decode cX3_runProgram 95 = .ok (.aload_n 0, 1) := by decide +kernel
theorem dX3_runProgram_96 : decode cX3_runProgram 96 = .ok (.aload_n 0, 1) := by decide +kernel
theorem dX3_runProgram_97 : decode cX3_runProgram 97 = .ok (.getfield 9, 3) := by decide +kernel
theorem dX3_runProgram_100 : decode cX3_runProgram 100 = .ok (.getfield 54, 3) := by decide +kernel
theorem dX3_runProgram_103 : decode cX3_runProgram 103 = .ok (.putfield 23, 3) := by decide +kernel
theorem dX3_runProgram_106 : decode cX3_runProgram 106 = .ok (.return_, 1) := by decide +kernel
set_option maxRecDepth 20000 in
theorem ggX3_doEntry_X3_takeBit : GoodIn wsX3_doEntry wsX3_takeBit := goodIn_r _ [6, 7, 8, 9, 53, 54, 55, 56, 57, 58, 59, 60] (by decide +kernel) (by decide +kernel)
set_option maxRecDepth 20000 in
theorem gX3_doEntry_X3_takeBit : GoodIn wsX3_doEntry (wsV RX3 61 RX3 yX3_takeBit wsX3_takeBit) := goodIn_app (goodIn_of _ (by decide +kernel)) ggX3_doEntry_X3_takeBit
set_option maxRecDepth 20000 in
theorem ggX3_doEntry_X3_doSimple : GoodIn wsX3_doEntry wsX3_doSimple := goodIn_r _ [13, 1, 14, 15, 16, 17, 7, 18, 19, 20, 21, 22, 23, 24, 25, 26, 27, 28, 29, 30, 31, 32, 33, 34, 35, 36, 37, 38, 39, 40, 41, 42, 43, 44, 45, 46, 47, 48, 49, 50, 51, 52, 53, 54, 55, 56, 57, 58, 59, 60, 61, 62, 63, 64, 65, 66, 67, 68, 69, 70, 71] (by decide +kernel) (by decide +kernel)
set_option maxRecDepth 20000 in
theorem gX3_doEntry_X3_doSimple : GoodIn wsX3_doEntry (wsV RX3 68 RX3 yX3_doSimple wsX3_doSimple) := goodIn_app (goodIn_of _ (by decide +kernel)) ggX3_doEntry_X3_doSimple
theorem dX3_doEntry_0 : decode cX3_doEntry 0 = .ok (.aload_n 0, 1) := by decide +kernel
theorem dX3_doEntry_1 : decode cX3_doEntry 1 = .ok (.getfield 9, 3) := by decide +kernel
theorem dX3_doEntry_4 : decode cX3_doEntry 4 = .ok (.getfield 57, 3) := by decide +kernel
theorem dX3_doEntry_7 : decode cX3_doEntry 7 = .ok (.iload_n 1, 1) := by decide +kernel
theorem dX3_doEntry_8 : decode cX3_doEntry 8 = .ok (.iaload, 1) := by decide +kernel
theorem dX3_doEntry_9 : decode cX3_doEntry 9 = .ok (.tableswitch 72 4 8 #[35, 58, 68, 35, 58], 35) := by decide +kernel
theorem dX3_doEntry_44 : decode cX3_doEntry 44 = .ok (.aload_n 0, 1) := by decide +kernel
theorem dX3_doEntry_45 : decode cX3_doEntry 45 = .ok (.invokevirtual 61, 3) := by decide +kernel
theorem dX3_doEntry_48 : decode cX3_doEntry 48 = .ok (.ifCond .eq 9, 3) := by decide +kernel
theorem dX3_doEntry_51 : decode cX3_doEntry 51 = .ok (.iload_n 1, 1) := by decide +kernel
theorem dX3_doEntry_52 : decode cX3_doEntry 52 = .ok (.iconst 1, 1) := by decide +kernel
theorem dX3_doEntry_53 : decode cX3_doEntry 53 = .ok (.iadd, 1) := by decide +kernel
theorem dX3_doEntry_54 : decode cX3_doEntry 54 = .ok (.goto 12, 3) := by decide +kernel
theorem dX3_doEntry_57 : decode cX3_doEntry 57 = .ok (.aload_n 0, 1) := by decide +kernel
theorem dX3_doEntry_58 : decode cX3_doEntry 58 = .ok (.getfield 9, 3) := by decide +kernel
theorem dX3_doEntry_61 : decode cX3_doEntry 61 = .ok (.getfield 65, 3) := by decide +kernel
theorem dX3_doEntry_64 : decode cX3_doEntry 64 = .ok (.iload_n 1, 1) := by decide +kernel
theorem dX3_doEntry_65 : decode cX3_doEntry 65 = .ok (.iaload, 1) := by decide +kernel
theorem dX3_doEntry_66 : decode cX3_doEntry 66 = .ok (.ireturn, 1) := by decide +kernel
theorem dX3_doEntry_67 : decode cX3_doEntry 67 = .ok (.aload_n 0, 1) := by decide +kernel
theorem dX3_doEntry_68 : decode cX3_doEntry 68 = .ok (.getfield 9, 3) := by decide +kernel
theorem dX3_doEntry_71 : decode cX3_doEntry 71 = .ok (.getfield 65, 3) := by decide +kernel
theorem dX3_doEntry_74 : decode cX3_doEntry 74 = .ok (.iload_n 1, 1) := by decide +kernel
theorem dX3_doEntry_75 : decode cX3_doEntry 75 = .ok (.iaload, 1) := by decide +kernel
theorem dX3_doEntry_76 : decode cX3_doEntry 76 = .ok (.ireturn, 1) := by decide +kernel
theorem dX3_doEntry_77 : decode cX3_doEntry 77 = .ok (.iload_n 1, 1) := by decide +kernel
theorem dX3_doEntry_78 : decode cX3_doEntry 78 = .ok (.iconst 1, 1) := by decide +kernel
theorem dX3_doEntry_79 : decode cX3_doEntry 79 = .ok (.iadd, 1) := by decide +kernel
theorem dX3_doEntry_80 : decode cX3_doEntry 80 = .ok (.ireturn, 1) := by decide +kernel
theorem dX3_doEntry_81 : decode cX3_doEntry 81 = .ok (.aload_n 0, 1) := by decide +kernel
theorem dX3_doEntry_82 : decode cX3_doEntry 82 = .ok (.iload_n 1, 1) := by decide +kernel
theorem dX3_doEntry_83 : decode cX3_doEntry 83 = .ok (.invokevirtual 68, 3) := by decide +kernel
theorem dX3_doEntry_86 : decode cX3_doEntry 86 = .ok (.iload_n 1, 1) := by decide +kernel
theorem dX3_doEntry_87 : decode cX3_doEntry 87 = .ok (.iconst 1, 1) := by decide +kernel
theorem dX3_doEntry_88 : decode cX3_doEntry 88 = .ok (.iadd, 1) := by decide +kernel
theorem dX3_doEntry_89 : decode cX3_doEntry 89 = .ok (.ireturn, 1) := by decide +kernel
set_option maxRecDepth 20000 in
theorem ggX3_doSimple_X1_afterSimple : GoodIn wsX3_doSimple wsX1_afterSimple := goodIn_r _ [11, 12, 13, 14, 15, 16, 17, 10, 18, 19, 20, 21, 22, 23, 24, 25, 26, 27, 28, 29, 30, 31, 32, 33, 34, 35, 36, 37, 38, 39, 40, 41, 50, 51, 52, 53, 54, 55, 56, 57, 58, 59, 60] (by decide +kernel) (by decide +kernel)
set_option maxRecDepth 20000 in
theorem gX3_doSimple_X1_afterSimple : GoodIn wsX3_doSimple (wsV RX3 72 RX1 yX1_afterSimple wsX1_afterSimple) := goodIn_app (goodIn_of _ (by decide +kernel)) ggX3_doSimple_X1_afterSimple
theorem dX3_doSimple_0 : decode cX3_doSimple 0 = .ok (.aload_n 0, 1) := by decide +kernel
theorem dX3_doSimple_1 : decode cX3_doSimple 1 = .ok (.getfield 9, 3) := by decide +kernel
theorem dX3_doSimple_4 : decode cX3_doSimple 4 = .ok (.iload_n 1, 1) := by decide +kernel
theorem dX3_doSimple_5 : decode cX3_doSimple 5 = .ok (.aload_n 0, 1) := by decide +kernel
theorem dX3_doSimple_6 : decode cX3_doSimple 6 = .ok (.getfield 26, 3) := by decide +kernel
theorem dX3_doSimple_9 : decode cX3_doSimple 9 = .ok (.aload_n 0, 1) := by decide +kernel
theorem dX3_doSimple_10 : decode cX3_doSimple 10 = .ok (.getfield 15, 3) := by decide +kernel
theorem dX3_doSimple_13 : decode cX3_doSimple 13 = .ok (.invokevirtual 72, 3) := by decide +kernel
theorem dX3_doSimple_16 : decode cX3_doSimple 16 = .ok (.istore_n 2, 1) := by decide +kernel
theorem dX3_doSimple_17 : decode cX3_doSimple 17 = .ok (.iload_n 2, 1) := by decide +kernel
theorem dX3_doSimple_18 : decode cX3_doSimple 18 = .ok (.ifCond .ge 25, 3) := by decide +kernel
theorem dX3_doSimple_21 : decode cX3_doSimple 21 = .ok (.aload_n 0, 1) := by decide +kernel
theorem dX3_doSimple_22 : decode cX3_doSimple 22 = .ok (.iload_n 2, 1) := by decide +kernel
theorem dX3_doSimple_23 : decode cX3_doSimple 23 = .ok (.ineg, 1) := by decide +kernel
theorem dX3_doSimple_24 : decode cX3_doSimple 24 = .ok (.putfield 19, 3) := by decide +kernel
theorem dX3_doSimple_27 : decode cX3_doSimple 27 = .ok (.aload_n 0, 1) := by decide +kernel
theorem dX3_doSimple_28 : decode cX3_doSimple 28 = .ok (.aload_n 0, 1) := by decide +kernel
theorem dX3_doSimple_29 : decode cX3_doSimple 29 = .ok (.getfield 9, 3) := by decide +kernel
theorem dX3_doSimple_32 : decode cX3_doSimple 32 = .ok (.getfield 76, 3) := by decide +kernel
theorem dX3_doSimple_35 : decode cX3_doSimple 35 = .ok (.iload_n 1, 1) := by decide +kernel
theorem dX3_doSimple_36 : decode cX3_doSimple 36 = .ok (.iaload, 1) := by decide +kernel
theorem dX3_doSimple_37 : decode cX3_doSimple 37 = .ok (.putfield 23, 3) := by decide +kernel
theorem dX3_doSimple_40 : decode cX3_doSimple 40 = .ok (.goto 18, 3) := by decide +kernel
theorem dX3_doSimple_43 : decode cX3_doSimple 43 = .ok (.aload_n 0, 1) := by decide +kernel
theorem dX3_doSimple_44 : decode cX3_doSimple 44 = .ok (.iload_n 2, 1) := by decide +kernel
theorem dX3_doSimple_45 : decode cX3_doSimple 45 = .ok (.putfield 26, 3) := by decide +kernel
theorem dX3_doSimple_48 : decode cX3_doSimple 48 = .ok (.aload_n 0, 1) := by decide +kernel
theorem dX3_doSimple_49 : decode cX3_doSimple 49 = .ok (.dup, 1) := by decide +kernel
theorem dX3_doSimple_50 : decode cX3_doSimple 50 = .ok (.getfield 29, 3) := by decide +kernel
theorem dX3_doSimple_53 : decode cX3_doSimple 53 = .ok (.iconst 1, 1) := by decide +kernel
theorem dX3_doSimple_54 : decode cX3_doSimple 54 = .ok (.iadd, 1) := by decide +kernel
theorem dX3_doSimple_55 : decode cX3_doSimple 55 = .ok (.putfield 29, 3) := by decide +kernel
theorem dX3_doSimple_58 : decode cX3_doSimple 58 = .ok (.return_, 1) := by decide +kernel
theorem dX3_takeBit_0 : decode cX3_takeBit 0 = .ok (.aload_n 0, 1) := by decide +kernel
theorem dX3_takeBit_1 : decode cX3_takeBit 1 = .ok (.dup, 1) := by decide +kernel
theorem dX3_takeBit_2 : decode cX3_takeBit 2 = .ok (.getfield 29, 3) := by decide +kernel
theorem dX3_takeBit_5 : decode cX3_takeBit 5 = .ok (.iconst 1, 1) := by decide +kernel
theorem dX3_takeBit_6 : decode cX3_takeBit 6 = .ok (.iadd, 1) := by decide +kernel
theorem dX3_takeBit_7 : decode cX3_takeBit 7 = .ok (.putfield 29, 3) := by decide +kernel
theorem dX3_takeBit_10 : decode cX3_takeBit 10 = .ok (.aload_n 0, 1) := by decide +kernel
theorem dX3_takeBit_11 : decode cX3_takeBit 11 = .ok (.getfield 35, 3) := by decide +kernel
theorem dX3_takeBit_14 : decode cX3_takeBit 14 = .ok (.ifCond .gt 5, 3) := by decide +kernel
theorem dX3_takeBit_17 : decode cX3_takeBit 17 = .ok (.iconst 0, 1) := by decide +kernel
theorem dX3_takeBit_18 : decode cX3_takeBit 18 = .ok (.ireturn, 1) := by decide +kernel
theorem dX3_takeBit_19 : decode cX3_takeBit 19 = .ok (.aload_n 0, 1) := by decide +kernel
theorem dX3_takeBit_20 : decode cX3_takeBit 20 = .ok (.getfield 32, 3) := by decide +kernel
theorem dX3_takeBit_23 : decode cX3_takeBit 23 = .ok (.iconst 1, 1) := by decide +kernel
theorem dX3_takeBit_24 : decode cX3_takeBit 24 = .ok (.iand, 1) := by decide +kernel
theorem dX3_takeBit_25 : decode cX3_takeBit 25 = .ok (.iconst 1, 1) := by decide +kernel
theorem dX3_takeBit_26 : decode cX3_takeBit 26 = .ok (.if_icmp .ne 7, 3) := by decide +kernel
theorem dX3_takeBit_29 : decode cX3_takeBit 29 = .ok (.iconst 1, 1) := by decide +kernel
theorem dX3_takeBit_30 : decode cX3_takeBit 30 = .ok (.goto 4, 3) := by decide +kernel
theorem dX3_takeBit_33 : decode cX3_takeBit 33 = .ok (.iconst 0, 1) := by decide +kernel
theorem dX3_takeBit_34 : decode cX3_takeBit 34 = .ok (.istore_n 1, 1) := by decide +kernel
theorem dX3_takeBit_35 : decode cX3_takeBit 35 = .ok (.aload_n 0, 1) := by decide +kernel
theorem dX3_takeBit_36 : decode cX3_takeBit 36 = .ok (.dup, 1) := by decide +kernel
theorem dX3_takeBit_37 : decode cX3_takeBit 37 = .ok (.getfield 32, 3) := by decide +kernel
theorem dX3_takeBit_40 : decode cX3_takeBit 40 = .ok (.iconst 1, 1) := by decide +kernel
theorem dX3_takeBit_41 : decode cX3_takeBit 41 = .ok (.iushr, 1) := by decide +kernel
theorem dX3_takeBit_42 : decode cX3_takeBit 42 = .ok (.putfield 32, 3) := by decide +kernel
theorem dX3_takeBit_45 : decode cX3_takeBit 45 = .ok (.aload_n 0, 1) := by decide +kernel
theorem dX3_takeBit_46 : decode cX3_takeBit 46 = .ok (.dup, 1) := by decide +kernel
theorem dX3_takeBit_47 : decode cX3_takeBit 47 = .ok (.getfield 35, 3) := by decide +kernel
theorem dX3_takeBit_50 : decode cX3_takeBit 50 = .ok (.iconst 1, 1) := by decide +kernel
theorem dX3_takeBit_51 : decode cX3_takeBit 51 = .ok (.isub, 1) := by decide +kernel
theorem dX3_takeBit_52 : decode cX3_takeBit 52 = .ok (.putfield 35, 3) := by decide +kernel
theorem dX3_takeBit_55 : decode cX3_takeBit 55 = .ok (.iload_n 1, 1) := by decide +kernel
theorem dX3_takeBit_56 : decode cX3_takeBit 56 = .ok (.ireturn, 1) := by decide +kernel
set_option maxRecDepth 20000 in
theorem ggX4_init_X2_init : GoodIn wsX4_init wsX2_init := goodIn_r _ [22, 23, 2, 3, 24, 25, 26, 27, 28, 29, 30, 31, 61, 62] (by decide +kernel) (by decide +kernel)
set_option maxRecDepth 20000 in
theorem gX4_init_X2_init : GoodIn wsX4_init (wsX2_init) := ggX4_init_X2_init
set_option maxRecDepth 20000 in
theorem ggX4_init_X1_init : GoodIn wsX4_init wsX1_init := goodIn_r _ [34, 35, 2, 3, 24, 36, 37, 38, 39, 40, 41, 67, 68, 69, 70, 71, 72, 73, 74, 75] (by decide +kernel) (by decide +kernel)
set_option maxRecDepth 20000 in
theorem gX4_init_X1_init : GoodIn wsX4_init (wsX1_init) := ggX4_init_X1_init
set_option maxRecDepth 20000 in
theorem ggX4_init_X0_init : GoodIn wsX4_init wsX0_init := goodIn_r _ [44, 45, 2, 3, 46, 47, 24, 48, 49, 50, 51, 29, 30, 31, 76, 77, 78, 79, 80] (by decide +kernel) (by decide +kernel)
set_option maxRecDepth 20000 in
theorem gX4_init_X0_init : GoodIn wsX4_init (wsX0_init) := ggX4_init_X0_init
set_option maxRecDepth 20000 in
theorem ggX4_init_X3_init : GoodIn wsX4_init wsX3_init := goodIn_r _ [54, 55, 2, 3, 56, 57, 58, 59, 60, 81, 82, 83, 84, 85, 86, 87, 88] (by decide +kernel) (by decide +kernel)
set_option maxRecDepth 20000 in
theorem gX4_init_X3_init : GoodIn wsX4_init (wsX3_init) := ggX4_init_X3_init
theorem dX4_init_0 : decode cX4_init 0 = .ok (.aload_n 0, 1) := by decide +kernel
theorem dX4_init_1 : decode cX4_init 1 = .ok (.invokespecial 3, 3) := by decide +kernel
theorem dX4_init_4 : decode cX4_init 4 = .ok (.aload_n 0, 1) := by decide +kernel
theorem dX4_init_5 : decode cX4_init 5 = .ok (.new 9, 3) := by decide +kernel
theorem dX4_init_8 : decode cX4_init 8 = .ok (.dup, 1) := by decide +kernel
theorem dX4_init_9 : decode cX4_init 9 = .ok (.invokespecial 11, 3) := by decide +kernel
theorem dX4_init_12 : decode cX4_init 12 = .ok (.putfield 12, 3) := by decide +kernel
theorem dX4_init_15 : decode cX4_init 15 = .ok (.aload_n 0, 1) := by decide +kernel
theorem dX4_init_16 : decode cX4_init 16 = .ok (.new 16, 3) := by decide +kernel
theorem dX4_init_19 : decode cX4_init 19 = .ok (.dup, 1) := by decide +kernel
theorem dX4_init_20 : decode cX4_init 20 = .ok (.invokespecial 18, 3) := by decide +kernel
theorem dX4_init_23 : decode cX4_init 23 = .ok (.putfield 19, 3) := by decide +kernel
theorem dX4_init_26 : decode cX4_init 26 = .ok (.aload_n 0, 1) := by decide +kernel
theorem dX4_init_27 : decode cX4_init 27 = .ok (.new 23, 3) := by decide +kernel
theorem dX4_init_30 : decode cX4_init 30 = .ok (.dup, 1) := by decide +kernel
theorem dX4_init_31 : decode cX4_init 31 = .ok (.aload_n 0, 1) := by decide +kernel
theorem dX4_init_32 : decode cX4_init 32 = .ok (.getfield 19, 3) := by decide +kernel
theorem dX4_init_35 : decode cX4_init 35 = .ok (.aload_n 0, 1) := by decide +kernel
theorem dX4_init_36 : decode cX4_init 36 = .ok (.getfield 12, 3) := by decide +kernel
theorem dX4_init_39 : decode cX4_init 39 = .ok (.invokespecial 25, 3) := by decide +kernel
theorem dX4_init_42 : decode cX4_init 42 = .ok (.putfield 28, 3) := by decide +kernel
theorem dX4_init_45 : decode cX4_init 45 = .ok (.aload_n 0, 1) := by decide +kernel
theorem dX4_init_46 : decode cX4_init 46 = .ok (.new 32, 3) := by decide +kernel
theorem dX4_init_49 : decode cX4_init 49 = .ok (.dup, 1) := by decide +kernel
theorem dX4_init_50 : decode cX4_init 50 = .ok (.aload_n 0, 1) := by decide +kernel
theorem dX4_init_51 : decode cX4_init 51 = .ok (.getfield 19, 3) := by decide +kernel
theorem dX4_init_54 : decode cX4_init 54 = .ok (.aload_n 0, 1) := by decide +kernel
theorem dX4_init_55 : decode cX4_init 55 = .ok (.getfield 12, 3) := by decide +kernel
theorem dX4_init_58 : decode cX4_init 58 = .ok (.invokespecial 34, 3) := by decide +kernel
theorem dX4_init_61 : decode cX4_init 61 = .ok (.putfield 35, 3) := by decide +kernel
theorem dX4_init_64 : decode cX4_init 64 = .ok (.return_, 1) := by decide +kernel
set_option maxRecDepth 20000 in
theorem ggX4_lead_X4_isState : GoodIn wsX4_lead wsX4_isState := goodIn_r _ [5, 6, 7, 4, 8] (by decide +kernel) (by decide +kernel)
set_option maxRecDepth 20000 in
theorem gX4_lead_X4_isState : GoodIn wsX4_lead (va_wsS RX4 39 yX4_isState wsX4_isState) := goodIn_app (goodIn_of _ (by decide +kernel)) ggX4_lead_X4_isState
set_option maxRecDepth 20000 in
theorem ggX4_lead_X4_isBelow : GoodIn wsX4_lead wsX4_isBelow := goodIn_r _ [8] (by decide +kernel) (by decide +kernel)
set_option maxRecDepth 20000 in
theorem gX4_lead_X4_isBelow : GoodIn wsX4_lead (va_wsS RX4 43 yX4_isBelow wsX4_isBelow) := goodIn_app (goodIn_of _ (by decide +kernel)) ggX4_lead_X4_isBelow
set_option maxRecDepth 20000 in
theorem ggX4_lead_X4_objectOf : GoodIn wsX4_lead wsX4_objectOf := goodIn_r _ [11] (by decide +kernel) (by decide +kernel)
set_option maxRecDepth 20000 in
theorem gX4_lead_X4_objectOf : GoodIn wsX4_lead (va_wsS RX4 46 yX4_objectOf wsX4_objectOf) := goodIn_app (goodIn_of _ (by decide +kernel)) ggX4_lead_X4_objectOf
set_option maxRecDepth 20000 in
theorem ggX4_lead_X2_setTarget : GoodIn wsX4_lead wsX2_setTarget := goodIn_r _ [16, 17, 7, 4, 8, 22, 23] (by decide +kernel) (by decide +kernel)
set_option maxRecDepth 20000 in
theorem gX4_lead_X2_setTarget : GoodIn wsX4_lead (wsV RX4 50 RX2 yX2_setTarget wsX2_setTarget) := goodIn_app (goodIn_of _ (by decide +kernel)) ggX4_lead_X2_setTarget
theorem dX4_lead_0 : decode cX4_lead 0 = .ok (.iload_n 1, 1) := by decide +kernel
theorem dX4_lead_1 : decode cX4_lead 1 = .ok (.iload_n 2, 1) := by decide +kernel
theorem dX4_lead_2 : decode cX4_lead 2 = .ok (.invokestatic 39, 3) := by decide +kernel
theorem dX4_lead_5 : decode cX4_lead 5 = .ok (.ifCond .eq 30, 3) := by decide +kernel
theorem dX4_lead_8 : decode cX4_lead 8 = .ok (.iload_n 3, 1) := by decide +kernel
theorem dX4_lead_9 : decode cX4_lead 9 = .ok (.iconst 4, 1) := by decide +kernel
theorem dX4_lead_10 : decode cX4_lead 10 = .ok (.invokestatic 43, 3) := by decide +kernel
theorem dX4_lead_13 : decode cX4_lead 13 = .ok (.ifCond .eq 22, 3) := by decide +kernel
theorem dX4_lead_16 : decode cX4_lead 16 = .ok (.iload 4, 2) := by decide +kernel
theorem dX4_lead_18 : decode cX4_lead 18 = .ok (.iconst (-1), 1) := by decide +kernel
theorem dX4_lead_19 : decode cX4_lead 19 = .ok (.if_icmp .eq 12, 3) := by decide +kernel
theorem dX4_lead_22 : decode cX4_lead 22 = .ok (.iload 4, 2) := by decide +kernel
theorem dX4_lead_24 : decode cX4_lead 24 = .ok (.iconst 5, 1) := by decide +kernel
theorem dX4_lead_25 : decode cX4_lead 25 = .ok (.invokestatic 43, 3) := by decide +kernel
theorem dX4_lead_28 : decode cX4_lead 28 = .ok (.ifCond .eq 7, 3) := by decide +kernel
theorem dX4_lead_31 : decode cX4_lead 31 = .ok (.iconst 1, 1) := by decide +kernel
theorem dX4_lead_32 : decode cX4_lead 32 = .ok (.goto 4, 3) := by decide +kernel
theorem dX4_lead_35 : decode cX4_lead 35 = .ok (.iconst 0, 1) := by decide +kernel
theorem dX4_lead_36 : decode cX4_lead 36 = .ok (.istore 5, 2) := by decide +kernel
theorem dX4_lead_38 : decode cX4_lead 38 = .ok (.iload 5, 2) := by decide +kernel
theorem dX4_lead_40 : decode cX4_lead 40 = .ok (.ifCond .eq 25, 3) := by decide +kernel
theorem dX4_lead_43 : decode cX4_lead 43 = .ok (.aload_n 0, 1) := by decide +kernel
theorem dX4_lead_44 : decode cX4_lead 44 = .ok (.getfield 12, 3) := by decide +kernel
theorem dX4_lead_47 : decode cX4_lead 47 = .ok (.iload_n 1, 1) := by decide +kernel
theorem dX4_lead_48 : decode cX4_lead 48 = .ok (.iload_n 2, 1) := by decide +kernel
theorem dX4_lead_49 : decode cX4_lead 49 = .ok (.invokestatic 46, 3) := by decide +kernel
theorem dX4_lead_52 : decode cX4_lead 52 = .ok (.iload_n 3, 1) := by decide +kernel
theorem dX4_lead_53 : decode cX4_lead 53 = .ok (.iload 4, 2) := by decide +kernel
theorem dX4_lead_55 : decode cX4_lead 55 = .ok (.invokevirtual 50, 3) := by decide +kernel
theorem dX4_lead_58 : decode cX4_lead 58 = .ok (.ifCond .eq 7, 3) := by decide +kernel
theorem dX4_lead_61 : decode cX4_lead 61 = .ok (.iconst 1, 1) := by decide +kernel
theorem dX4_lead_62 : decode cX4_lead 62 = .ok (.goto 4, 3) := by decide +kernel
theorem dX4_lead_65 : decode cX4_lead 65 = .ok (.iconst 0, 1) := by decide +kernel
theorem dX4_lead_66 : decode cX4_lead 66 = .ok (.ireturn, 1) := by decide +kernel
set_option maxRecDepth 20000 in
theorem ggX4_mark_X4_isState : GoodIn wsX4_mark wsX4_isState := goodIn_r _ [5, 6, 7, 4, 8] (by decide +kernel) (by decide +kernel)
set_option maxRecDepth 20000 in
theorem gX4_mark_X4_isState : GoodIn wsX4_mark (va_wsS RX4 39 yX4_isState wsX4_isState) := goodIn_app (goodIn_of _ (by decide +kernel)) ggX4_mark_X4_isState
set_option maxRecDepth 20000 in
theorem ggX4_mark_X4_objectOf : GoodIn wsX4_mark wsX4_objectOf := goodIn_r _ [11] (by decide +kernel) (by decide +kernel)
set_option maxRecDepth 20000 in
theorem gX4_mark_X4_objectOf : GoodIn wsX4_mark (va_wsS RX4 46 yX4_objectOf wsX4_objectOf) := goodIn_app (goodIn_of _ (by decide +kernel)) ggX4_mark_X4_objectOf
set_option maxRecDepth 20000 in
theorem ggX4_mark_X2_setFinal : GoodIn wsX4_mark wsX2_setFinal := goodIn_r _ [16, 17, 7, 4, 8, 22, 23] (by decide +kernel) (by decide +kernel)
set_option maxRecDepth 20000 in
theorem gX4_mark_X2_setFinal : GoodIn wsX4_mark (wsV RX4 54 RX2 yX2_setFinal wsX2_setFinal) := goodIn_app (goodIn_of _ (by decide +kernel)) ggX4_mark_X2_setFinal
theorem dX4_mark_0 : decode cX4_mark 0 = .ok (.iload_n 1, 1) := by decide +kernel
theorem dX4_mark_1 : decode cX4_mark 1 = .ok (.iload_n 2, 1) := by decide +kernel
theorem dX4_mark_2 : decode cX4_mark 2 = .ok (.invokestatic 39, 3) := by decide +kernel
theorem dX4_mark_5 : decode cX4_mark 5 = .ok (.ifCond .eq 23, 3) := by decide +kernel
theorem dX4_mark_8 : decode cX4_mark 8 = .ok (.aload_n 0, 1) := by decide +kernel
theorem dX4_mark_9 : decode cX4_mark 9 = .ok (.getfield 12, 3) := by decide +kernel
theorem dX4_mark_12 : decode cX4_mark 12 = .ok (.iload_n 1, 1) := by decide +kernel
theorem dX4_mark_13 : decode cX4_mark 13 = .ok (.iload_n 2, 1) := by decide +kernel
theorem dX4_mark_14 : decode cX4_mark 14 = .ok (.invokestatic 46, 3) := by decide +kernel
theorem dX4_mark_17 : decode cX4_mark 17 = .ok (.iload_n 3, 1) := by decide +kernel
theorem dX4_mark_18 : decode cX4_mark 18 = .ok (.invokevirtual 54, 3) := by decide +kernel
theorem dX4_mark_21 : decode cX4_mark 21 = .ok (.ifCond .eq 7, 3) := by decide +kernel
theorem dX4_mark_24 : decode cX4_mark 24 = .ok (.iconst 1, 1) := by decide +kernel
theorem dX4_mark_25 : decode cX4_mark 25 = .ok (.goto 4, 3) := by decide +kernel
theorem dX4_mark_28 : decode cX4_mark 28 = .ok (.iconst 0, 1) := by decide +kernel
theorem dX4_mark_29 : decode cX4_mark 29 = .ok (.ireturn, 1) := by decide +kernel
set_option maxRecDepth 20000 in
theorem ggX4_make_X4_isVariable : GoodIn wsX4_make wsX4_isVariable := goodIn_r _ [5, 6, 7, 4, 8] (by decide +kernel) (by decide +kernel)
set_option maxRecDepth 20000 in
theorem gX4_make_X4_isVariable : GoodIn wsX4_make (va_wsS RX4 58 yX4_isVariable wsX4_isVariable) := goodIn_app (goodIn_of _ (by decide +kernel)) ggX4_make_X4_isVariable
set_option maxRecDepth 20000 in
theorem ggX4_make_X4_isBelow : GoodIn wsX4_make wsX4_isBelow := goodIn_r _ [8] (by decide +kernel) (by decide +kernel)
set_option maxRecDepth 20000 in
theorem gX4_make_X4_isBelow : GoodIn wsX4_make (va_wsS RX4 43 yX4_isBelow wsX4_isBelow) := goodIn_app (goodIn_of _ (by decide +kernel)) ggX4_make_X4_isBelow
set_option maxRecDepth 20000 in
theorem ggX4_make_X1_addSimple : GoodIn wsX4_make wsX1_addSimple := goodIn_r _ [13, 14, 15, 16, 17, 12, 18, 19, 20, 21, 22, 23, 28, 29, 30, 31, 32, 33, 34, 35, 36] (by decide +kernel) (by decide +kernel)
set_option maxRecDepth 20000 in
theorem gX4_make_X1_addSimple : GoodIn wsX4_make (wsV RX4 62 RX1 yX1_addSimple wsX1_addSimple) := goodIn_app (goodIn_of _ (by decide +kernel)) ggX4_make_X1_addSimple
theorem dX4_make_0 : decode cX4_make 0 = .ok (.iload_n 1, 1) := by decide +kernel
theorem dX4_make_1 : decode cX4_make 1 = .ok (.invokestatic 58, 3) := by decide +kernel
theorem dX4_make_4 : decode cX4_make 4 = .ok (.ifCond .eq 24, 3) := by decide +kernel
theorem dX4_make_7 : decode cX4_make 7 = .ok (.iload_n 2, 1) := by decide +kernel
theorem dX4_make_8 : decode cX4_make 8 = .ok (.iconst 3, 1) := by decide +kernel
theorem dX4_make_9 : decode cX4_make 9 = .ok (.invokestatic 43, 3) := by decide +kernel
theorem dX4_make_12 : decode cX4_make 12 = .ok (.ifCond .eq 16, 3) := by decide +kernel
theorem dX4_make_15 : decode cX4_make 15 = .ok (.aload_n 0, 1) := by decide +kernel
theorem dX4_make_16 : decode cX4_make 16 = .ok (.getfield 19, 3) := by decide +kernel
theorem dX4_make_19 : decode cX4_make 19 = .ok (.iconst 0, 1) := by decide +kernel
theorem dX4_make_20 : decode cX4_make 20 = .ok (.iload_n 1, 1) := by decide +kernel
theorem dX4_make_21 : decode cX4_make 21 = .ok (.iload_n 2, 1) := by decide +kernel
theorem dX4_make_22 : decode cX4_make 22 = .ok (.invokevirtual 62, 3) := by decide +kernel
theorem dX4_make_25 : decode cX4_make 25 = .ok (.goto 4, 3) := by decide +kernel
theorem dX4_make_28 : decode cX4_make 28 = .ok (.iconst (-1), 1) := by decide +kernel
theorem dX4_make_29 : decode cX4_make 29 = .ok (.ireturn, 1) := by decide +kernel
set_option maxRecDepth 20000 in
theorem ggX4_call_X4_isVariable : GoodIn wsX4_call wsX4_isVariable := goodIn_r _ [5, 6, 7, 4, 8] (by decide +kernel) (by decide +kernel)
set_option maxRecDepth 20000 in
theorem gX4_call_X4_isVariable : GoodIn wsX4_call (va_wsS RX4 58 yX4_isVariable wsX4_isVariable) := goodIn_app (goodIn_of _ (by decide +kernel)) ggX4_call_X4_isVariable
set_option maxRecDepth 20000 in
theorem ggX4_call_X4_isBelow : GoodIn wsX4_call wsX4_isBelow := goodIn_r _ [8] (by decide +kernel) (by decide +kernel)
set_option maxRecDepth 20000 in
theorem gX4_call_X4_isBelow : GoodIn wsX4_call (va_wsS RX4 43 yX4_isBelow wsX4_isBelow) := goodIn_app (goodIn_of _ (by decide +kernel)) ggX4_call_X4_isBelow
set_option maxRecDepth 20000 in
theorem ggX4_call_X1_addSimple : GoodIn wsX4_call wsX1_addSimple := goodIn_r _ [13, 14, 15, 16, 17, 12, 18, 19, 20, 21, 22, 23, 28, 29, 30, 31, 32, 33, 34, 35, 36] (by decide +kernel) (by decide +kernel)
set_option maxRecDepth 20000 in
theorem gX4_call_X1_addSimple : GoodIn wsX4_call (wsV RX4 62 RX1 yX1_addSimple wsX1_addSimple) := goodIn_app (goodIn_of _ (by decide +kernel)) ggX4_call_X1_addSimple
theorem dX4_call_0 : decode cX4_call 0 = .ok (.iload_n 1, 1) := by decide +kernel
theorem dX4_call_1 : decode cX4_call 1 = .ok (.invokestatic 58, 3) := by decide +kernel
theorem dX4_call_4 : decode cX4_call 4 = .ok (.ifCond .eq 24, 3) := by decide +kernel
theorem dX4_call_7 : decode cX4_call 7 = .ok (.iload_n 2, 1) := by decide +kernel
theorem dX4_call_8 : decode cX4_call 8 = .ok (.iconst 4, 1) := by decide +kernel
theorem dX4_call_9 : decode cX4_call 9 = .ok (.invokestatic 43, 3) := by decide +kernel
theorem dX4_call_12 : decode cX4_call 12 = .ok (.ifCond .eq 16, 3) := by decide +kernel
theorem dX4_call_15 : decode cX4_call 15 = .ok (.aload_n 0, 1) := by decide +kernel
theorem dX4_call_16 : decode cX4_call 16 = .ok (.getfield 19, 3) := by decide +kernel
theorem dX4_call_19 : decode cX4_call 19 = .ok (.iconst 1, 1) := by decide +kernel
theorem dX4_call_20 : decode cX4_call 20 = .ok (.iload_n 1, 1) := by decide +kernel
theorem dX4_call_21 : decode cX4_call 21 = .ok (.iload_n 2, 1) := by decide +kernel
theorem dX4_call_22 : decode cX4_call 22 = .ok (.invokevirtual 62, 3) := by decide +kernel
theorem dX4_call_25 : decode cX4_call 25 = .ok (.goto 4, 3) := by decide +kernel
theorem dX4_call_28 : decode cX4_call 28 = .ok (.iconst (-1), 1) := by decide +kernel
theorem dX4_call_29 : decode cX4_call 29 = .ok (.ireturn, 1) := by decide +kernel
set_option maxRecDepth 20000 in
theorem ggX4_move_X4_isVariable : GoodIn wsX4_move wsX4_isVariable := goodIn_r _ [5, 6, 7, 4, 8] (by decide +kernel) (by decide +kernel)
set_option maxRecDepth 20000 in
theorem gX4_move_X4_isVariable : GoodIn wsX4_move (va_wsS RX4 58 yX4_isVariable wsX4_isVariable) := goodIn_app (goodIn_of _ (by decide +kernel)) ggX4_move_X4_isVariable
set_option maxRecDepth 20000 in
theorem ggX4_move_X1_addSimple : GoodIn wsX4_move wsX1_addSimple := goodIn_r _ [13, 14, 15, 16, 17, 12, 18, 19, 20, 21, 22, 23, 28, 29, 30, 31, 32, 33, 34, 35, 36] (by decide +kernel) (by decide +kernel)
set_option maxRecDepth 20000 in
theorem gX4_move_X1_addSimple : GoodIn wsX4_move (wsV RX4 62 RX1 yX1_addSimple wsX1_addSimple) := goodIn_app (goodIn_of _ (by decide +kernel)) ggX4_move_X1_addSimple
theorem dX4_move_0 : decode cX4_move 0 = .ok (.iload_n 1, 1) := by decide +kernel
theorem dX4_move_1 : decode cX4_move 1 = .ok (.invokestatic 58, 3) := by decide +kernel
theorem dX4_move_4 : decode cX4_move 4 = .ok (.ifCond .eq 23, 3) := by decide +kernel
theorem dX4_move_7 : decode cX4_move 7 = .ok (.iload_n 2, 1) := by decide +kernel
theorem dX4_move_8 : decode cX4_move 8 = .ok (.invokestatic 58, 3) := by decide +kernel
theorem dX4_move_11 : decode cX4_move 11 = .ok (.ifCond .eq 16, 3) := by decide +kernel
theorem dX4_move_14 : decode cX4_move 14 = .ok (.aload_n 0, 1) := by decide +kernel
theorem dX4_move_15 : decode cX4_move 15 = .ok (.getfield 19, 3) := by decide +kernel
theorem dX4_move_18 : decode cX4_move 18 = .ok (.iconst 2, 1) := by decide +kernel
theorem dX4_move_19 : decode cX4_move 19 = .ok (.iload_n 1, 1) := by decide +kernel
theorem dX4_move_20 : decode cX4_move 20 = .ok (.iload_n 2, 1) := by decide +kernel
theorem dX4_move_21 : decode cX4_move 21 = .ok (.invokevirtual 62, 3) := by decide +kernel
theorem dX4_move_24 : decode cX4_move 24 = .ok (.goto 4, 3) := by decide +kernel
theorem dX4_move_27 : decode cX4_move 27 = .ok (.iconst (-1), 1) := by decide +kernel
theorem dX4_move_28 : decode cX4_move 28 = .ok (.ireturn, 1) := by decide +kernel
set_option maxRecDepth 20000 in
theorem ggX4_drop_X4_isVariable : GoodIn wsX4_drop wsX4_isVariable := goodIn_r _ [5, 6, 7, 4, 8] (by decide +kernel) (by decide +kernel)
set_option maxRecDepth 20000 in
theorem gX4_drop_X4_isVariable : GoodIn wsX4_drop (va_wsS RX4 58 yX4_isVariable wsX4_isVariable) := goodIn_app (goodIn_of _ (by decide +kernel)) ggX4_drop_X4_isVariable
set_option maxRecDepth 20000 in
theorem ggX4_drop_X1_addSimple : GoodIn wsX4_drop wsX1_addSimple := goodIn_r _ [13, 14, 15, 16, 17, 12, 18, 19, 20, 21, 22, 23, 28, 29, 30, 31, 32, 33, 34, 35, 36] (by decide +kernel) (by decide +kernel)
set_option maxRecDepth 20000 in
theorem gX4_drop_X1_addSimple : GoodIn wsX4_drop (wsV RX4 62 RX1 yX1_addSimple wsX1_addSimple) := goodIn_app (goodIn_of _ (by decide +kernel)) ggX4_drop_X1_addSimple
theorem dX4_drop_0 : decode cX4_drop 0 = .ok (.iload_n 1, 1) := by decide +kernel
theorem dX4_drop_1 : decode cX4_drop 1 = .ok (.invokestatic 58, 3) := by decide +kernel
theorem dX4_drop_4 : decode cX4_drop 4 = .ok (.ifCond .eq 16, 3) := by decide +kernel
theorem dX4_drop_7 : decode cX4_drop 7 = .ok (.aload_n 0, 1) := by decide +kernel
theorem dX4_drop_8 : decode cX4_drop 8 = .ok (.getfield 19, 3) := by decide +kernel
theorem dX4_drop_11 : decode cX4_drop 11 = .ok (.iconst 3, 1) := by decide +kernel
theorem dX4_drop_12 : decode cX4_drop 12 = .ok (.iload_n 1, 1) := by decide +kernel
theorem dX4_drop_13 : decode cX4_drop 13 = .ok (.iconst 0, 1) := by decide +kernel
theorem dX4_drop_14 : decode cX4_drop 14 = .ok (.invokevirtual 62, 3) := by decide +kernel
theorem dX4_drop_17 : decode cX4_drop 17 = .ok (.goto 4, 3) := by decide +kernel
theorem dX4_drop_20 : decode cX4_drop 20 = .ok (.iconst (-1), 1) := by decide +kernel
theorem dX4_drop_21 : decode cX4_drop 21 = .ok (.ireturn, 1) := by decide +kernel
set_option maxRecDepth 20000 in
theorem ggX4_choose_X1_addOpening : GoodIn wsX4_choose wsX1_addOpening := goodIn_r _ [6, 7, 8, 9, 10, 11, 12, 13, 5, 14, 15, 16, 17, 18, 23, 24, 25, 26, 27, 28, 29, 30, 31] (by decide +kernel) (by decide +kernel)
set_option maxRecDepth 20000 in
theorem gX4_choose_X1_addOpening : GoodIn wsX4_choose (wsV RX4 66 RX1 yX1_addOpening wsX1_addOpening) := goodIn_app (goodIn_of _ (by decide +kernel)) ggX4_choose_X1_addOpening
theorem dX4_choose_0 : decode cX4_choose 0 = .ok (.aload_n 0, 1) := by decide +kernel
theorem dX4_choose_1 : decode cX4_choose 1 = .ok (.getfield 19, 3) := by decide +kernel
theorem dX4_choose_4 : decode cX4_choose 4 = .ok (.iconst 4, 1) := by decide +kernel
theorem dX4_choose_5 : decode cX4_choose 5 = .ok (.invokevirtual 66, 3) := by decide +kernel
theorem dX4_choose_8 : decode cX4_choose 8 = .ok (.ireturn, 1) := by decide +kernel
set_option maxRecDepth 20000 in
theorem ggX4_otherwise_X1_beginElse : GoodIn wsX4_otherwise wsX1_beginElse := goodIn_r _ [6, 7, 8, 9, 10, 11, 12, 13, 14, 15, 5, 16, 17, 18, 19, 20, 21, 22, 23, 24, 25, 26, 27, 28, 29, 34, 35, 36, 37, 38, 39, 40, 41, 42] (by decide +kernel) (by decide +kernel)
set_option maxRecDepth 20000 in
theorem gX4_otherwise_X1_beginElse : GoodIn wsX4_otherwise (wsV RX4 70 RX1 yX1_beginElse wsX1_beginElse) := goodIn_app (goodIn_of _ (by decide +kernel)) ggX4_otherwise_X1_beginElse
theorem dX4_otherwise_0 : decode cX4_otherwise 0 = .ok (.aload_n 0, 1) := by decide +kernel
theorem dX4_otherwise_1 : decode cX4_otherwise 1 = .ok (.getfield 19, 3) := by decide +kernel
theorem dX4_otherwise_4 : decode cX4_otherwise 4 = .ok (.invokevirtual 70, 3) := by decide +kernel
theorem dX4_otherwise_7 : decode cX4_otherwise 7 = .ok (.ireturn, 1) := by decide +kernel
set_option maxRecDepth 20000 in
theorem ggX4_repeat_X1_addOpening : GoodIn wsX4_repeat wsX1_addOpening := goodIn_r _ [6, 7, 8, 9, 10, 11, 12, 13, 5, 14, 15, 16, 17, 18, 23, 24, 25, 26, 27, 28, 29, 30, 31] (by decide +kernel) (by decide +kernel)
set_option maxRecDepth 20000 in
theorem gX4_repeat_X1_addOpening : GoodIn wsX4_repeat (wsV RX4 66 RX1 yX1_addOpening wsX1_addOpening) := goodIn_app (goodIn_of _ (by decide +kernel)) ggX4_repeat_X1_addOpening
theorem dX4_repeat_0 : decode cX4_repeat 0 = .ok (.aload_n 0, 1) := by decide +kernel
theorem dX4_repeat_1 : decode cX4_repeat 1 = .ok (.getfield 19, 3) := by decide +kernel
theorem dX4_repeat_4 : decode cX4_repeat 4 = .ok (.bipush 7, 2) := by decide +kernel
theorem dX4_repeat_6 : decode cX4_repeat 6 = .ok (.invokevirtual 66, 3) := by decide +kernel
theorem dX4_repeat_9 : decode cX4_repeat 9 = .ok (.ireturn, 1) := by decide +kernel
set_option maxRecDepth 20000 in
theorem ggX4_end_X1_endBlock : GoodIn wsX4_end wsX1_endBlock := goodIn_r _ [6, 7, 8, 9, 10, 11, 12, 13, 14, 5, 15, 16, 17, 18, 19, 20, 21, 22, 23, 24, 25, 26, 27, 28, 29, 30, 31, 32, 33, 38, 39, 40, 41, 42, 43, 44, 45, 46] (by decide +kernel) (by decide +kernel)
set_option maxRecDepth 20000 in
theorem gX4_end_X1_endBlock : GoodIn wsX4_end (wsV RX4 74 RX1 yX1_endBlock wsX1_endBlock) := goodIn_app (goodIn_of _ (by decide +kernel)) ggX4_end_X1_endBlock
theorem dX4_end_0 : decode cX4_end 0 = .ok (.aload_n 0, 1) := by decide +kernel
theorem dX4_end_1 : decode cX4_end 1 = .ok (.getfield 19, 3) := by decide +kernel
theorem dX4_end_4 : decode cX4_end 4 = .ok (.invokevirtual 74, 3) := by decide +kernel
theorem dX4_end_7 : decode cX4_end 7 = .ok (.ireturn, 1) := by decide +kernel
set_option maxRecDepth 20000 in
theorem ggX4_clear_X1_removeAll : GoodIn wsX4_clear wsX1_removeAll := goodIn_r _ [6, 7, 8, 9, 14, 15, 16, 17, 18, 19, 20, 21, 22] (by decide +kernel) (by decide +kernel)
set_option maxRecDepth 20000 in
theorem gX4_clear_X1_removeAll : GoodIn wsX4_clear (wsV RX4 77 RX1 yX1_removeAll wsX1_removeAll) := goodIn_app (goodIn_of _ (by decide +kernel)) ggX4_clear_X1_removeAll
theorem dX4_clear_0 : decode cX4_clear 0 = .ok (.aload_n 0, 1) := by decide +kernel
theorem dX4_clear_1 : decode cX4_clear 1 = .ok (.getfield 19, 3) := by decide +kernel
theorem dX4_clear_4 : decode cX4_clear 4 = .ok (.invokevirtual 77, 3) := by decide +kernel
theorem dX4_clear_7 : decode cX4_clear 7 = .ok (.return_, 1) := by decide +kernel
theorem dX4_size_0 : decode cX4_size 0 = .ok (.aload_n 0, 1) := by decide +kernel
theorem dX4_size_1 : decode cX4_size 1 = .ok (.getfield 19, 3) := by decide +kernel
theorem dX4_size_4 : decode cX4_size 4 = .ok (.getfield 80, 3) := by decide +kernel
theorem dX4_size_7 : decode cX4_size 7 = .ok (.ireturn, 1) := by decide +kernel
set_option maxRecDepth 20000 in
theorem ggX4_check_X0_checkProgram : GoodIn wsX4_check wsX0_checkProgram := goodIn_r _ [6, 7, 8, 9, 10, 11, 12, 13, 14, 15, 16, 17, 18, 19, 20, 21, 22, 23, 5, 24, 25, 26, 27, 28, 29, 30, 31, 32, 33, 34, 35, 36, 37, 38, 39, 40, 41, 42, 43, 44, 45, 46, 47, 48, 49, 50, 51, 52, 53, 54, 55, 56, 57, 58, 59, 60, 61, 62, 63, 64, 65, 70, 71, 72, 73, 74, 75, 76, 77, 78, 79, 80, 81, 82, 83, 84, 85] (by decide +kernel) (by decide +kernel)
set_option maxRecDepth 20000 in
theorem gX4_check_X0_checkProgram : GoodIn wsX4_check (wsV RX4 84 RX0 yX0_checkProgram wsX0_checkProgram) := goodIn_app (goodIn_of _ (by decide +kernel)) ggX4_check_X0_checkProgram
theorem dX4_check_0 : decode cX4_check 0 = .ok (.aload_n 0, 1) := by decide +kernel
theorem dX4_check_1 : decode cX4_check 1 = .ok (.getfield 28, 3) := by decide +kernel
theorem dX4_check_4 : decode cX4_check 4 = .ok (.invokevirtual 84, 3) := by decide +kernel
theorem dX4_check_7 : decode cX4_check 7 = .ok (.ireturn, 1) := by decide +kernel
theorem dX4_faultAt_0 : decode cX4_faultAt 0 = .ok (.aload_n 0, 1) := by decide +kernel
theorem dX4_faultAt_1 : decode cX4_faultAt 1 = .ok (.getfield 28, 3) := by decide +kernel
theorem dX4_faultAt_4 : decode cX4_faultAt 4 = .ok (.getfield 88, 3) := by decide +kernel
theorem dX4_faultAt_7 : decode cX4_faultAt 7 = .ok (.ireturn, 1) := by decide +kernel
set_option maxRecDepth 20000 in
theorem ggX4_held_X0_heldBefore : GoodIn wsX4_held wsX0_heldBefore := goodIn_r _ [6, 7, 8, 9, 10, 22, 23, 24, 25, 26] (by decide +kernel) (by decide +kernel)
set_option maxRecDepth 20000 in
theorem gX4_held_X0_heldBefore : GoodIn wsX4_held (wsV RX4 91 RX0 yX0_heldBefore wsX0_heldBefore) := goodIn_app (goodIn_of _ (by decide +kernel)) ggX4_held_X0_heldBefore
set_option maxRecDepth 20000 in
theorem ggX4_held_X4_isVariable : GoodIn wsX4_held wsX4_isVariable := goodIn_r _ [13, 14, 8, 9, 10] (by decide +kernel) (by decide +kernel)
set_option maxRecDepth 20000 in
theorem gX4_held_X4_isVariable : GoodIn wsX4_held (va_wsS RX4 58 yX4_isVariable wsX4_isVariable) := goodIn_app (goodIn_of _ (by decide +kernel)) ggX4_held_X4_isVariable
set_option maxRecDepth 20000 in
theorem ggX4_held_X4_heldBy : GoodIn wsX4_held wsX4_heldBy := goodIn_r _ [17] (by decide +kernel) (by decide +kernel)
set_option maxRecDepth 20000 in
theorem gX4_held_X4_heldBy : GoodIn wsX4_held (va_wsS RX4 94 yX4_heldBy wsX4_heldBy) := goodIn_app (goodIn_of _ (by decide +kernel)) ggX4_held_X4_heldBy
theorem dX4_held_0 : decode cX4_held 0 = .ok (.aload_n 0, 1) := by decide +kernel
theorem dX4_held_1 : decode cX4_held 1 = .ok (.getfield 28, 3) := by decide +kernel
theorem dX4_held_4 : decode cX4_held 4 = .ok (.iload_n 1, 1) := by decide +kernel
theorem dX4_held_5 : decode cX4_held 5 = .ok (.invokevirtual 91, 3) := by decide +kernel
theorem dX4_held_8 : decode cX4_held 8 = .ok (.istore_n 3, 1) := by decide +kernel
theorem dX4_held_9 : decode cX4_held 9 = .ok (.iload_n 3, 1) := by decide +kernel
theorem dX4_held_10 : decode cX4_held 10 = .ok (.iconst (-1), 1) := by decide +kernel
theorem dX4_held_11 : decode cX4_held 11 = .ok (.if_icmp .eq 10, 3) := by decide +kernel
theorem dX4_held_14 : decode cX4_held 14 = .ok (.iload_n 2, 1) := by decide +kernel
theorem dX4_held_15 : decode cX4_held 15 = .ok (.invokestatic 58, 3) := by decide +kernel
theorem dX4_held_18 : decode cX4_held 18 = .ok (.ifCond .ne 8, 3) := by decide +kernel
theorem dX4_held_21 : decode cX4_held 21 = .ok (.bipush (-2), 2) := by decide +kernel
theorem dX4_held_23 : decode cX4_held 23 = .ok (.goto 8, 3) := by decide +kernel
theorem dX4_held_26 : decode cX4_held 26 = .ok (.iload_n 3, 1) := by decide +kernel
theorem dX4_held_27 : decode cX4_held 27 = .ok (.iload_n 2, 1) := by decide +kernel
theorem dX4_held_28 : decode cX4_held 28 = .ok (.invokestatic 94, 3) := by decide +kernel
theorem dX4_held_31 : decode cX4_held 31 = .ok (.ireturn, 1) := by decide +kernel
set_option maxRecDepth 20000 in
theorem ggX4_run_X1_hasOpenBlocks : GoodIn wsX4_run wsX1_hasOpenBlocks := goodIn_r _ [11, 12, 91, 92, 93, 94, 95, 96, 97, 98, 99] (by decide +kernel) (by decide +kernel)
set_option maxRecDepth 20000 in
theorem gX4_run_X1_hasOpenBlocks : GoodIn wsX4_run (wsV RX4 104 RX1 yX1_hasOpenBlocks wsX1_hasOpenBlocks) := goodIn_app (goodIn_of _ (by decide +kernel)) ggX4_run_X1_hasOpenBlocks
set_option maxRecDepth 20000 in
theorem ggX4_run_X3_runProgram : GoodIn wsX4_run wsX3_runProgram := goodIn_r _ [17, 18, 19, 20, 21, 22, 23, 24, 25, 26, 27, 28, 29, 10, 30, 31, 32, 33, 34, 35, 36, 37, 16, 38, 39, 40, 41, 42, 43, 44, 45, 46, 47, 48, 49, 50, 51, 52, 53, 54, 55, 56, 57, 58, 59, 60, 61, 62, 63, 64, 65, 66, 67, 68, 69, 70, 71, 72, 73, 74, 75, 76, 77, 78, 83, 84, 85, 86, 87, 88, 89, 90, 91, 92, 93, 94, 95, 96, 97, 98, 99, 100, 101] (by decide +kernel) (by decide +kernel)
set_option maxRecDepth 20000 in
theorem gX4_run_X3_runProgram : GoodIn wsX4_run (wsV RX4 109 RX3 yX3_runProgram wsX3_runProgram) := goodIn_app (goodIn_of _ (by decide +kernel)) ggX4_run_X3_runProgram
theorem dX4_run_0 : decode cX4_run 0 = .ok (.iload_n 2, 1) := by decide +kernel
theorem dX4_run_1 : decode cX4_run 1 = .ok (.ifCond .lt 9, 3) := by decide +kernel
theorem dX4_run_4 : decode cX4_run 4 = .ok (.iload_n 2, 1) := by decide +kernel
theorem dX4_run_5 : decode cX4_run 5 = .ok (.bipush 32, 2) := by decide +kernel
theorem dX4_run_7 : decode cX4_run 7 = .ok (.if_icmp .le 13, 3) := by decide +kernel
theorem dX4_run_10 : decode cX4_run 10 = .ok (.new 97, 3) := by decide +kernel
theorem dX4_run_13 : decode cX4_run 13 = .ok (.dup, 1) := by decide +kernel
theorem dX4_run_14 : decode cX4_run 14 = .ok (.ldc 99, 2) := by decide +kernel
theorem dX4_run_16 : decode cX4_run 16 = .ok (.invokespecial 101, 3) := by decide +kernel
theorem dX4_run_19 : decode cX4_run 19 = .ok (.athrow, 1) := by decide +kernel
theorem dX4_run_20 : decode cX4_run 20 = .ok (.aload_n 0, 1) := by decide +kernel
theorem dX4_run_21 : decode cX4_run 21 = .ok (.getfield 19, 3) := by decide +kernel
theorem dX4_run_24 : decode cX4_run 24 = .ok (.invokevirtual 104, 3) := by decide +kernel
theorem dX4_run_27 : decode cX4_run 27 = .ok (.ifCond .eq 13, 3) := by decide +kernel
theorem dX4_run_30 : decode cX4_run 30 = .ok (.new 97, 3) := by decide +kernel
theorem dX4_run_33 : decode cX4_run 33 = .ok (.dup, 1) := by decide +kernel
theorem dX4_run_34 : decode cX4_run 34 = .ok (.ldc 107, 2) := by decide +kernel
theorem dX4_run_36 : decode cX4_run 36 = .ok (.invokespecial 101, 3) := by decide +kernel
theorem dX4_run_39 : decode cX4_run 39 = .ok (.athrow, 1) := by decide +kernel
theorem dX4_run_40 : decode cX4_run 40 = .ok (.aload_n 0, 1) := by decide +kernel
theorem dX4_run_41 : decode cX4_run 41 = .ok (.getfield 35, 3) := by decide +kernel
theorem dX4_run_44 : decode cX4_run 44 = .ok (.iload_n 1, 1) := by decide +kernel
theorem dX4_run_45 : decode cX4_run 45 = .ok (.iload_n 2, 1) := by decide +kernel
theorem dX4_run_46 : decode cX4_run 46 = .ok (.invokevirtual 109, 3) := by decide +kernel
theorem dX4_run_49 : decode cX4_run 49 = .ok (.aload_n 0, 1) := by decide +kernel
theorem dX4_run_50 : decode cX4_run 50 = .ok (.getfield 35, 3) := by decide +kernel
theorem dX4_run_53 : decode cX4_run 53 = .ok (.getfield 113, 3) := by decide +kernel
theorem dX4_run_56 : decode cX4_run 56 = .ok (.ifCond .eq 13, 3) := by decide +kernel
theorem dX4_run_59 : decode cX4_run 59 = .ok (.new 116, 3) := by decide +kernel
theorem dX4_run_62 : decode cX4_run 62 = .ok (.dup, 1) := by decide +kernel
theorem dX4_run_63 : decode cX4_run 63 = .ok (.ldc 118, 2) := by decide +kernel
theorem dX4_run_65 : decode cX4_run 65 = .ok (.invokespecial 120, 3) := by decide +kernel
theorem dX4_run_68 : decode cX4_run 68 = .ok (.athrow, 1) := by decide +kernel
theorem dX4_run_69 : decode cX4_run 69 = .ok (.aload_n 0, 1) := by decide +kernel
theorem dX4_run_70 : decode cX4_run 70 = .ok (.getfield 35, 3) := by decide +kernel
theorem dX4_run_73 : decode cX4_run 73 = .ok (.getfield 121, 3) := by decide +kernel
theorem dX4_run_76 : decode cX4_run 76 = .ok (.ireturn, 1) := by decide +kernel
theorem dX4_runFault_0 : decode cX4_runFault 0 = .ok (.aload_n 0, 1) := by decide +kernel
theorem dX4_runFault_1 : decode cX4_runFault 1 = .ok (.getfield 35, 3) := by decide +kernel
theorem dX4_runFault_4 : decode cX4_runFault 4 = .ok (.getfield 113, 3) := by decide +kernel
theorem dX4_runFault_7 : decode cX4_runFault 7 = .ok (.ireturn, 1) := by decide +kernel
theorem dX4_runAt_0 : decode cX4_runAt 0 = .ok (.aload_n 0, 1) := by decide +kernel
theorem dX4_runAt_1 : decode cX4_runAt 1 = .ok (.getfield 35, 3) := by decide +kernel
theorem dX4_runAt_4 : decode cX4_runAt 4 = .ok (.getfield 124, 3) := by decide +kernel
theorem dX4_runAt_7 : decode cX4_runAt 7 = .ok (.ireturn, 1) := by decide +kernel
theorem dX4_steps_0 : decode cX4_steps 0 = .ok (.aload_n 0, 1) := by decide +kernel
theorem dX4_steps_1 : decode cX4_steps 1 = .ok (.getfield 35, 3) := by decide +kernel
theorem dX4_steps_4 : decode cX4_steps 4 = .ok (.getfield 121, 3) := by decide +kernel
theorem dX4_steps_7 : decode cX4_steps 7 = .ok (.ireturn, 1) := by decide +kernel
set_option maxRecDepth 20000 in
theorem ggX4_left_X4_isVariable : GoodIn wsX4_left wsX4_isVariable := goodIn_r _ [5, 6, 7, 4, 8] (by decide +kernel) (by decide +kernel)
set_option maxRecDepth 20000 in
theorem gX4_left_X4_isVariable : GoodIn wsX4_left (va_wsS RX4 58 yX4_isVariable wsX4_isVariable) := goodIn_app (goodIn_of _ (by decide +kernel)) ggX4_left_X4_isVariable
set_option maxRecDepth 20000 in
theorem ggX4_left_X4_heldBy : GoodIn wsX4_left wsX4_heldBy := goodIn_r _ [11] (by decide +kernel) (by decide +kernel)
set_option maxRecDepth 20000 in
theorem gX4_left_X4_heldBy : GoodIn wsX4_left (va_wsS RX4 94 yX4_heldBy wsX4_heldBy) := goodIn_app (goodIn_of _ (by decide +kernel)) ggX4_left_X4_heldBy
theorem dX4_left_0 : decode cX4_left 0 = .ok (.iload_n 1, 1) := by decide +kernel
theorem dX4_left_1 : decode cX4_left 1 = .ok (.invokestatic 58, 3) := by decide +kernel
theorem dX4_left_4 : decode cX4_left 4 = .ok (.ifCond .eq 17, 3) := by decide +kernel
theorem dX4_left_7 : decode cX4_left 7 = .ok (.aload_n 0, 1) := by decide +kernel
theorem dX4_left_8 : decode cX4_left 8 = .ok (.getfield 35, 3) := by decide +kernel
theorem dX4_left_11 : decode cX4_left 11 = .ok (.getfield 125, 3) := by decide +kernel
theorem dX4_left_14 : decode cX4_left 14 = .ok (.iload_n 1, 1) := by decide +kernel
theorem dX4_left_15 : decode cX4_left 15 = .ok (.invokestatic 94, 3) := by decide +kernel
theorem dX4_left_18 : decode cX4_left 18 = .ok (.goto 5, 3) := by decide +kernel
theorem dX4_left_21 : decode cX4_left 21 = .ok (.bipush (-2), 2) := by decide +kernel
theorem dX4_left_23 : decode cX4_left 23 = .ok (.ireturn, 1) := by decide +kernel
theorem dX4_isBelow_0 : decode cX4_isBelow 0 = .ok (.iload_n 0, 1) := by decide +kernel
theorem dX4_isBelow_1 : decode cX4_isBelow 1 = .ok (.ifCond .lt 12, 3) := by decide +kernel
theorem dX4_isBelow_4 : decode cX4_isBelow 4 = .ok (.iload_n 0, 1) := by decide +kernel
theorem dX4_isBelow_5 : decode cX4_isBelow 5 = .ok (.iload_n 1, 1) := by decide +kernel
theorem dX4_isBelow_6 : decode cX4_isBelow 6 = .ok (.if_icmp .ge 7, 3) := by decide +kernel
theorem dX4_isBelow_9 : decode cX4_isBelow 9 = .ok (.iconst 1, 1) := by decide +kernel
theorem dX4_isBelow_10 : decode cX4_isBelow 10 = .ok (.goto 4, 3) := by decide +kernel
theorem dX4_isBelow_13 : decode cX4_isBelow 13 = .ok (.iconst 0, 1) := by decide +kernel
theorem dX4_isBelow_14 : decode cX4_isBelow 14 = .ok (.ireturn, 1) := by decide +kernel
set_option maxRecDepth 20000 in
theorem ggX4_isVariable_X4_isBelow : GoodIn wsX4_isVariable wsX4_isBelow := goodIn_r _ [4] (by decide +kernel) (by decide +kernel)
set_option maxRecDepth 20000 in
theorem gX4_isVariable_X4_isBelow : GoodIn wsX4_isVariable (va_wsS RX4 43 yX4_isBelow wsX4_isBelow) := goodIn_app (goodIn_of _ (by decide +kernel)) ggX4_isVariable_X4_isBelow
theorem dX4_isVariable_0 : decode cX4_isVariable 0 = .ok (.iload_n 0, 1) := by decide +kernel
theorem dX4_isVariable_1 : decode cX4_isVariable 1 = .ok (.iconst 4, 1) := by decide +kernel
theorem dX4_isVariable_2 : decode cX4_isVariable 2 = .ok (.invokestatic 43, 3) := by decide +kernel
theorem dX4_isVariable_5 : decode cX4_isVariable 5 = .ok (.ireturn, 1) := by decide +kernel
set_option maxRecDepth 20000 in
theorem ggX4_isState_X4_isBelow : GoodIn wsX4_isState wsX4_isBelow := goodIn_r _ [4] (by decide +kernel) (by decide +kernel)
set_option maxRecDepth 20000 in
theorem gX4_isState_X4_isBelow : GoodIn wsX4_isState (va_wsS RX4 43 yX4_isBelow wsX4_isBelow) := goodIn_app (goodIn_of _ (by decide +kernel)) ggX4_isState_X4_isBelow
theorem dX4_isState_0 : decode cX4_isState 0 = .ok (.iload_n 0, 1) := by decide +kernel
theorem dX4_isState_1 : decode cX4_isState 1 = .ok (.iconst 3, 1) := by decide +kernel
theorem dX4_isState_2 : decode cX4_isState 2 = .ok (.invokestatic 43, 3) := by decide +kernel
theorem dX4_isState_5 : decode cX4_isState 5 = .ok (.ifCond .eq 15, 3) := by decide +kernel
theorem dX4_isState_8 : decode cX4_isState 8 = .ok (.iload_n 1, 1) := by decide +kernel
theorem dX4_isState_9 : decode cX4_isState 9 = .ok (.iconst 5, 1) := by decide +kernel
theorem dX4_isState_10 : decode cX4_isState 10 = .ok (.invokestatic 43, 3) := by decide +kernel
theorem dX4_isState_13 : decode cX4_isState 13 = .ok (.ifCond .eq 7, 3) := by decide +kernel
theorem dX4_isState_16 : decode cX4_isState 16 = .ok (.iconst 1, 1) := by decide +kernel
theorem dX4_isState_17 : decode cX4_isState 17 = .ok (.goto 4, 3) := by decide +kernel
theorem dX4_isState_20 : decode cX4_isState 20 = .ok (.iconst 0, 1) := by decide +kernel
theorem dX4_isState_21 : decode cX4_isState 21 = .ok (.ireturn, 1) := by decide +kernel
theorem dX4_heldBy_0 : decode cX4_heldBy 0 = .ok (.iload_n 0, 1) := by decide +kernel
theorem dX4_heldBy_1 : decode cX4_heldBy 1 = .ok (.iconst 5, 1) := by decide +kernel
theorem dX4_heldBy_2 : decode cX4_heldBy 2 = .ok (.iload_n 1, 1) := by decide +kernel
theorem dX4_heldBy_3 : decode cX4_heldBy 3 = .ok (.imul, 1) := by decide +kernel
theorem dX4_heldBy_4 : decode cX4_heldBy 4 = .ok (.iushr, 1) := by decide +kernel
theorem dX4_heldBy_5 : decode cX4_heldBy 5 = .ok (.bipush 31, 2) := by decide +kernel
theorem dX4_heldBy_7 : decode cX4_heldBy 7 = .ok (.iand, 1) := by decide +kernel
theorem dX4_heldBy_8 : decode cX4_heldBy 8 = .ok (.iconst 1, 1) := by decide +kernel
theorem dX4_heldBy_9 : decode cX4_heldBy 9 = .ok (.isub, 1) := by decide +kernel
theorem dX4_heldBy_10 : decode cX4_heldBy 10 = .ok (.ireturn, 1) := by decide +kernel
theorem dX4_withHeld_0 : decode cX4_withHeld 0 = .ok (.iconst 5, 1) := by decide +kernel
theorem dX4_withHeld_1 : decode cX4_withHeld 1 = .ok (.iload_n 1, 1) := by decide +kernel
theorem dX4_withHeld_2 : decode cX4_withHeld 2 = .ok (.imul, 1) := by decide +kernel
theorem dX4_withHeld_3 : decode cX4_withHeld 3 = .ok (.istore_n 3, 1) := by decide +kernel
theorem dX4_withHeld_4 : decode cX4_withHeld 4 = .ok (.iload_n 0, 1) := by decide +kernel
theorem dX4_withHeld_5 : decode cX4_withHeld 5 = .ok (.bipush 31, 2) := by decide +kernel
theorem dX4_withHeld_7 : decode cX4_withHeld 7 = .ok (.iload_n 3, 1) := by decide +kernel
theorem dX4_withHeld_8 : decode cX4_withHeld 8 = .ok (.ishl, 1) := by decide +kernel
theorem dX4_withHeld_9 : decode cX4_withHeld 9 = .ok (.iconst (-1), 1) := by decide +kernel
theorem dX4_withHeld_10 : decode cX4_withHeld 10 = .ok (.ixor, 1) := by decide +kernel
theorem dX4_withHeld_11 : decode cX4_withHeld 11 = .ok (.iand, 1) := by decide +kernel
theorem dX4_withHeld_12 : decode cX4_withHeld 12 = .ok (.iload_n 2, 1) := by decide +kernel
theorem dX4_withHeld_13 : decode cX4_withHeld 13 = .ok (.iconst 1, 1) := by decide +kernel
theorem dX4_withHeld_14 : decode cX4_withHeld 14 = .ok (.iadd, 1) := by decide +kernel
theorem dX4_withHeld_15 : decode cX4_withHeld 15 = .ok (.iload_n 3, 1) := by decide +kernel
theorem dX4_withHeld_16 : decode cX4_withHeld 16 = .ok (.ishl, 1) := by decide +kernel
theorem dX4_withHeld_17 : decode cX4_withHeld 17 = .ok (.ior, 1) := by decide +kernel
theorem dX4_withHeld_18 : decode cX4_withHeld 18 = .ok (.ireturn, 1) := by decide +kernel
theorem dX4_objectOf_0 : decode cX4_objectOf 0 = .ok (.bipush 8, 2) := by decide +kernel
theorem dX4_objectOf_2 : decode cX4_objectOf 2 = .ok (.iload_n 0, 1) := by decide +kernel
theorem dX4_objectOf_3 : decode cX4_objectOf 3 = .ok (.imul, 1) := by decide +kernel
theorem dX4_objectOf_4 : decode cX4_objectOf 4 = .ok (.iload_n 1, 1) := by decide +kernel
theorem dX4_objectOf_5 : decode cX4_objectOf 5 = .ok (.iadd, 1) := by decide +kernel
theorem dX4_objectOf_6 : decode cX4_objectOf 6 = .ok (.ireturn, 1) := by decide +kernel
theorem dX4_protocolOf_0 : decode cX4_protocolOf 0 = .ok (.iload_n 0, 1) := by decide +kernel
theorem dX4_protocolOf_1 : decode cX4_protocolOf 1 = .ok (.iconst 3, 1) := by decide +kernel
theorem dX4_protocolOf_2 : decode cX4_protocolOf 2 = .ok (.ishr, 1) := by decide +kernel
theorem dX4_protocolOf_3 : decode cX4_protocolOf 3 = .ok (.ireturn, 1) := by decide +kernel
end
section
theorem dX5_init_0 : decode cX5_init 0 = .ok (.aload_n 0, 1) := by decide +kernel
theorem dX5_init_1 : decode cX5_init 1 = .ok (.invokespecial 1, 3) := by decide +kernel
theorem dX5_init_4 : decode cX5_init 4 = .ok (.aload_n 0, 1) := by decide +kernel
theorem dX5_init_5 : decode cX5_init 5 = .ok (.bipush 60, 2) := by decide +kernel
theorem dX5_init_7 : decode cX5_init 7 = .ok (.newarray .int, 2) := by decide +kernel
theorem dX5_init_9 : decode cX5_init 9 = .ok (.putfield 7, 3) := by decide +kernel
theorem dX5_init_12 : decode cX5_init 12 = .ok (.aload_n 0, 1) := by decide +kernel
theorem dX5_init_13 : decode cX5_init 13 = .ok (.bipush 15, 2) := by decide +kernel
theorem dX5_init_15 : decode cX5_init 15 = .ok (.newarray .boolean, 2) := by decide +kernel
theorem dX5_init_17 : decode cX5_init 17 = .ok (.putfield 13, 3) := by decide +kernel
theorem dX5_init_20 : decode cX5_init 20 = .ok (.aload_n 0, 1) := by decide +kernel
theorem dX5_init_21 : decode cX5_init 21 = .ok (.bipush 40, 2) := by decide +kernel
theorem dX5_init_23 : decode cX5_init 23 = .ok (.newarray .int, 2) := by decide +kernel
theorem dX5_init_25 : decode cX5_init 25 = .ok (.putfield 17, 3) := by decide +kernel
theorem dX5_init_28 : decode cX5_init 28 = .ok (.aload_n 0, 1) := by decide +kernel
theorem dX5_init_29 : decode cX5_init 29 = .ok (.bipush 40, 2) := by decide +kernel
theorem dX5_init_31 : decode cX5_init 31 = .ok (.newarray .int, 2) := by decide +kernel
theorem dX5_init_33 : decode cX5_init 33 = .ok (.putfield 20, 3) := by decide +kernel
theorem dX5_init_36 : decode cX5_init 36 = .ok (.aload_n 0, 1) := by decide +kernel
theorem dX5_init_37 : decode cX5_init 37 = .ok (.bipush 40, 2) := by decide +kernel
theorem dX5_init_39 : decode cX5_init 39 = .ok (.newarray .int, 2) := by decide +kernel
theorem dX5_init_41 : decode cX5_init 41 = .ok (.putfield 23, 3) := by decide +kernel
theorem dX5_init_44 : decode cX5_init 44 = .ok (.aload_n 0, 1) := by decide +kernel
theorem dX5_init_45 : decode cX5_init 45 = .ok (.bipush 40, 2) := by decide +kernel
theorem dX5_init_47 : decode cX5_init 47 = .ok (.newarray .int, 2) := by decide +kernel
theorem dX5_init_49 : decode cX5_init 49 = .ok (.putfield 26, 3) := by decide +kernel
theorem dX5_init_52 : decode cX5_init 52 = .ok (.aload_n 0, 1) := by decide +kernel
theorem dX5_init_53 : decode cX5_init 53 = .ok (.bipush 40, 2) := by decide +kernel
theorem dX5_init_55 : decode cX5_init 55 = .ok (.newarray .int, 2) := by decide +kernel
theorem dX5_init_57 : decode cX5_init 57 = .ok (.putfield 29, 3) := by decide +kernel
theorem dX5_init_60 : decode cX5_init 60 = .ok (.aload_n 0, 1) := by decide +kernel
theorem dX5_init_61 : decode cX5_init 61 = .ok (.bipush 6, 2) := by decide +kernel
theorem dX5_init_63 : decode cX5_init 63 = .ok (.newarray .int, 2) := by decide +kernel
theorem dX5_init_65 : decode cX5_init 65 = .ok (.putfield 32, 3) := by decide +kernel
theorem dX5_init_68 : decode cX5_init 68 = .ok (.aload_n 0, 1) := by decide +kernel
theorem dX5_init_69 : decode cX5_init 69 = .ok (.bipush 6, 2) := by decide +kernel
theorem dX5_init_71 : decode cX5_init 71 = .ok (.newarray .boolean, 2) := by decide +kernel
theorem dX5_init_73 : decode cX5_init 73 = .ok (.putfield 35, 3) := by decide +kernel
theorem dX5_init_76 : decode cX5_init 76 = .ok (.aload_n 0, 1) := by decide +kernel
theorem dX5_init_77 : decode cX5_init 77 = .ok (.iconst 4, 1) := by decide +kernel
theorem dX5_init_78 : decode cX5_init 78 = .ok (.newarray .int, 2) := by decide +kernel
theorem dX5_init_80 : decode cX5_init 80 = .ok (.putfield 38, 3) := by decide +kernel
theorem dX5_init_83 : decode cX5_init 83 = .ok (.aload_n 0, 1) := by decide +kernel
theorem dX5_init_84 : decode cX5_init 84 = .ok (.iconst 4, 1) := by decide +kernel
theorem dX5_init_85 : decode cX5_init 85 = .ok (.newarray .int, 2) := by decide +kernel
theorem dX5_init_87 : decode cX5_init 87 = .ok (.putfield 41, 3) := by decide +kernel
theorem dX5_init_90 : decode cX5_init 90 = .ok (.aload_n 0, 1) := by decide +kernel
theorem dX5_init_91 : decode cX5_init 91 = .ok (.sipush 160, 3) := by decide +kernel
theorem dX5_init_94 : decode cX5_init 94 = .ok (.newarray .int, 2) := by decide +kernel
theorem dX5_init_96 : decode cX5_init 96 = .ok (.putfield 44, 3) := by decide +kernel
theorem dX5_init_99 : decode cX5_init 99 = .ok (.aload_n 0, 1) := by decide +kernel
theorem dX5_init_100 : decode cX5_init 100 = .ok (.bipush 6, 2) := by decide +kernel
theorem dX5_init_102 : decode cX5_init 102 = .ok (.newarray .int, 2) := by decide +kernel
theorem dX5_init_104 : decode cX5_init 104 = .ok (.putfield 47, 3) := by decide +kernel
theorem dX5_init_107 : decode cX5_init 107 = .ok (.aload_n 0, 1) := by decide +kernel
theorem dX5_init_108 : decode cX5_init 108 = .ok (.bipush 6, 2) := by decide +kernel
theorem dX5_init_110 : decode cX5_init 110 = .ok (.newarray .boolean, 2) := by decide +kernel
theorem dX5_init_112 : decode cX5_init 112 = .ok (.putfield 50, 3) := by decide +kernel
theorem dX5_init_115 : decode cX5_init 115 = .ok (.aload_n 0, 1) := by decide +kernel
theorem dX5_init_116 : decode cX5_init 116 = .ok (.bipush 24, 2) := by decide +kernel
theorem dX5_init_118 : decode cX5_init 118 = .ok (.newarray .int, 2) := by decide +kernel
theorem dX5_init_120 : decode cX5_init 120 = .ok (.putfield 53, 3) := by decide +kernel
theorem dX5_init_123 : decode cX5_init 123 = .ok (.aload_n 0, 1) := by decide +kernel
theorem dX5_init_124 : decode cX5_init 124 = .ok (.bipush 24, 2) := by decide +kernel
theorem dX5_init_126 : decode cX5_init 126 = .ok (.newarray .int, 2) := by decide +kernel
theorem dX5_init_128 : decode cX5_init 128 = .ok (.putfield 56, 3) := by decide +kernel
theorem dX5_init_131 : decode cX5_init 131 = .ok (.aload_n 0, 1) := by decide +kernel
theorem dX5_init_132 : decode cX5_init 132 = .ok (.iconst (-1), 1) := by decide +kernel
theorem dX5_init_133 : decode cX5_init 133 = .ok (.putfield 59, 3) := by decide +kernel
theorem dX5_init_136 : decode cX5_init 136 = .ok (.aload_n 0, 1) := by decide +kernel
theorem dX5_init_137 : decode cX5_init 137 = .ok (.iconst (-1), 1) := by decide +kernel
theorem dX5_init_138 : decode cX5_init 138 = .ok (.putfield 63, 3) := by decide +kernel
theorem dX5_init_141 : decode cX5_init 141 = .ok (.iconst 0, 1) := by decide +kernel
theorem dX5_init_142 : decode cX5_init 142 = .ok (.istore_n 1, 1) := by decide +kernel
theorem dX5_init_143 : decode cX5_init 143 = .ok (.iload_n 1, 1) := by decide +kernel
theorem dX5_init_144 : decode cX5_init 144 = .ok (.iconst 4, 1) := by decide +kernel
theorem dX5_init_145 : decode cX5_init 145 = .ok (.if_icmp .ge 16, 3) := by decide +kernel
theorem dX5_init_148 : decode cX5_init 148 = .ok (.aload_n 0, 1) := by decide +kernel
theorem dX5_init_149 : decode cX5_init 149 = .ok (.getfield 41, 3) := by decide +kernel
theorem dX5_init_152 : decode cX5_init 152 = .ok (.iload_n 1, 1) := by decide +kernel
theorem dX5_init_153 : decode cX5_init 153 = .ok (.iconst (-1), 1) := by decide +kernel
theorem dX5_init_154 : decode cX5_init 154 = .ok (.iastore, 1) := by decide +kernel
theorem dX5_init_155 : decode cX5_init 155 = .ok (.iinc 1 1, 3) := by decide +kernel
theorem dX5_init_158 : decode cX5_init 158 = .ok (.goto (-15), 3) := by decide +kernel
theorem dX5_init_161 : decode cX5_init 161 = .ok (.return_, 1) := by decide +kernel
theorem dX5_thrown_0 : decode cX5_thrown 0 = .ok (.aload_n 0, 1) := by decide +kernel
theorem dX5_thrown_1 : decode cX5_thrown 1 = .ok (.getfield 66, 3) := by decide +kernel
theorem dX5_thrown_4 : decode cX5_thrown 4 = .ok (.ireturn, 1) := by decide +kernel
theorem dX5_within_0 : decode cX5_within 0 = .ok (.iload_n 0, 1) := by decide +kernel
theorem dX5_within_1 : decode cX5_within 1 = .ok (.ifCond .lt 12, 3) := by decide +kernel
theorem dX5_within_4 : decode cX5_within 4 = .ok (.iload_n 0, 1) := by decide +kernel
theorem dX5_within_5 : decode cX5_within 5 = .ok (.iload_n 1, 1) := by decide +kernel
theorem dX5_within_6 : decode cX5_within 6 = .ok (.if_icmp .gt 7, 3) := by decide +kernel
theorem dX5_within_9 : decode cX5_within 9 = .ok (.iconst 1, 1) := by decide +kernel
theorem dX5_within_10 : decode cX5_within 10 = .ok (.goto 4, 3) := by decide +kernel
theorem dX5_within_13 : decode cX5_within 13 = .ok (.iconst 0, 1) := by decide +kernel
theorem dX5_within_14 : decode cX5_within 14 = .ok (.ireturn, 1) := by decide +kernel
set_option maxRecDepth 20000 in
theorem ggX5_lead_X5_within : GoodIn wsX5_lead wsX5_within := goodIn_r _ [6] (by decide +kernel) (by decide +kernel)
set_option maxRecDepth 20000 in
theorem gX5_lead_X5_within : GoodIn wsX5_lead (va_wsS RX5 69 yX5_within wsX5_within) := goodIn_app (goodIn_of _ (by decide +kernel)) ggX5_lead_X5_within
theorem dX5_lead_0 : decode cX5_lead 0 = .ok (.aload_n 0, 1) := by decide +kernel
theorem dX5_lead_1 : decode cX5_lead 1 = .ok (.iconst 0, 1) := by decide +kernel
theorem dX5_lead_2 : decode cX5_lead 2 = .ok (.putfield 66, 3) := by decide +kernel
theorem dX5_lead_5 : decode cX5_lead 5 = .ok (.iload_n 1, 1) := by decide +kernel
theorem dX5_lead_6 : decode cX5_lead 6 = .ok (.iconst 2, 1) := by decide +kernel
theorem dX5_lead_7 : decode cX5_lead 7 = .ok (.invokestatic 69, 3) := by decide +kernel
theorem dX5_lead_10 : decode cX5_lead 10 = .ok (.ifCond .eq 31, 3) := by decide +kernel
theorem dX5_lead_13 : decode cX5_lead 13 = .ok (.iload_n 2, 1) := by decide +kernel
theorem dX5_lead_14 : decode cX5_lead 14 = .ok (.iconst 4, 1) := by decide +kernel
theorem dX5_lead_15 : decode cX5_lead 15 = .ok (.invokestatic 69, 3) := by decide +kernel
theorem dX5_lead_18 : decode cX5_lead 18 = .ok (.ifCond .eq 23, 3) := by decide +kernel
theorem dX5_lead_21 : decode cX5_lead 21 = .ok (.iload_n 3, 1) := by decide +kernel
theorem dX5_lead_22 : decode cX5_lead 22 = .ok (.iconst 3, 1) := by decide +kernel
theorem dX5_lead_23 : decode cX5_lead 23 = .ok (.invokestatic 69, 3) := by decide +kernel
theorem dX5_lead_26 : decode cX5_lead 26 = .ok (.ifCond .eq 15, 3) := by decide +kernel
theorem dX5_lead_29 : decode cX5_lead 29 = .ok (.iload 4, 2) := by decide +kernel
theorem dX5_lead_31 : decode cX5_lead 31 = .ok (.iconst (-1), 1) := by decide +kernel
theorem dX5_lead_32 : decode cX5_lead 32 = .ok (.if_icmp .lt 9, 3) := by decide +kernel
theorem dX5_lead_35 : decode cX5_lead 35 = .ok (.iload 4, 2) := by decide +kernel
theorem dX5_lead_37 : decode cX5_lead 37 = .ok (.iconst 4, 1) := by decide +kernel
theorem dX5_lead_38 : decode cX5_lead 38 = .ok (.if_icmp .le 5, 3) := by decide +kernel
theorem dX5_lead_41 : decode cX5_lead 41 = .ok (.iconst 0, 1) := by decide +kernel
theorem dX5_lead_42 : decode cX5_lead 42 = .ok (.ireturn, 1) := by decide +kernel
theorem dX5_lead_43 : decode cX5_lead 43 = .ok (.aload_n 0, 1) := by decide +kernel
theorem dX5_lead_44 : decode cX5_lead 44 = .ok (.getfield 7, 3) := by decide +kernel
theorem dX5_lead_47 : decode cX5_lead 47 = .ok (.bipush 20, 2) := by decide +kernel
theorem dX5_lead_49 : decode cX5_lead 49 = .ok (.iload_n 1, 1) := by decide +kernel
theorem dX5_lead_50 : decode cX5_lead 50 = .ok (.imul, 1) := by decide +kernel
theorem dX5_lead_51 : decode cX5_lead 51 = .ok (.iconst 4, 1) := by decide +kernel
theorem dX5_lead_52 : decode cX5_lead 52 = .ok (.iload_n 2, 1) := by decide +kernel
theorem dX5_lead_53 : decode cX5_lead 53 = .ok (.imul, 1) := by decide +kernel
theorem dX5_lead_54 : decode cX5_lead 54 = .ok (.iadd, 1) := by decide +kernel
theorem dX5_lead_55 : decode cX5_lead 55 = .ok (.iload_n 3, 1) := by decide +kernel
theorem dX5_lead_56 : decode cX5_lead 56 = .ok (.iadd, 1) := by decide +kernel
theorem dX5_lead_57 : decode cX5_lead 57 = .ok (.iload 4, 2) := by decide +kernel
theorem dX5_lead_59 : decode cX5_lead 59 = .ok (.iconst 1, 1) := by decide +kernel
theorem dX5_lead_60 : decode cX5_lead 60 = .ok (.iadd, 1) := by decide +kernel
theorem dX5_lead_61 : decode cX5_lead 61 = .ok (.iastore, 1) := by decide +kernel
theorem dX5_lead_62 : decode cX5_lead 62 = .ok (.iconst 1, 1) := by decide +kernel
theorem dX5_lead_63 : decode cX5_lead 63 = .ok (.ireturn, 1) := by decide +kernel
set_option maxRecDepth 20000 in
theorem ggX5_mark_X5_within : GoodIn wsX5_mark wsX5_within := goodIn_r _ [6] (by decide +kernel) (by decide +kernel)
set_option maxRecDepth 20000 in
theorem gX5_mark_X5_within : GoodIn wsX5_mark (va_wsS RX5 69 yX5_within wsX5_within) := goodIn_app (goodIn_of _ (by decide +kernel)) ggX5_mark_X5_within
theorem dX5_mark_0 : decode cX5_mark 0 = .ok (.aload_n 0, 1) := by decide +kernel
theorem dX5_mark_1 : decode cX5_mark 1 = .ok (.iconst 0, 1) := by decide +kernel
theorem dX5_mark_2 : decode cX5_mark 2 = .ok (.putfield 66, 3) := by decide +kernel
theorem dX5_mark_5 : decode cX5_mark 5 = .ok (.iload_n 1, 1) := by decide +kernel
theorem dX5_mark_6 : decode cX5_mark 6 = .ok (.iconst 2, 1) := by decide +kernel
theorem dX5_mark_7 : decode cX5_mark 7 = .ok (.invokestatic 69, 3) := by decide +kernel
theorem dX5_mark_10 : decode cX5_mark 10 = .ok (.ifCond .eq 11, 3) := by decide +kernel
theorem dX5_mark_13 : decode cX5_mark 13 = .ok (.iload_n 2, 1) := by decide +kernel
theorem dX5_mark_14 : decode cX5_mark 14 = .ok (.iconst 4, 1) := by decide +kernel
theorem dX5_mark_15 : decode cX5_mark 15 = .ok (.invokestatic 69, 3) := by decide +kernel
theorem dX5_mark_18 : decode cX5_mark 18 = .ok (.ifCond .ne 5, 3) := by decide +kernel
theorem dX5_mark_21 : decode cX5_mark 21 = .ok (.iconst 0, 1) := by decide +kernel
theorem dX5_mark_22 : decode cX5_mark 22 = .ok (.ireturn, 1) := by decide +kernel
theorem dX5_mark_23 : decode cX5_mark 23 = .ok (.aload_n 0, 1) := by decide +kernel
theorem dX5_mark_24 : decode cX5_mark 24 = .ok (.getfield 13, 3) := by decide +kernel
theorem dX5_mark_27 : decode cX5_mark 27 = .ok (.iconst 5, 1) := by decide +kernel
theorem dX5_mark_28 : decode cX5_mark 28 = .ok (.iload_n 1, 1) := by decide +kernel
theorem dX5_mark_29 : decode cX5_mark 29 = .ok (.imul, 1) := by decide +kernel
theorem dX5_mark_30 : decode cX5_mark 30 = .ok (.iload_n 2, 1) := by decide +kernel
theorem dX5_mark_31 : decode cX5_mark 31 = .ok (.iadd, 1) := by decide +kernel
theorem dX5_mark_32 : decode cX5_mark 32 = .ok (.iload_n 3, 1) := by decide +kernel
theorem dX5_mark_33 : decode cX5_mark 33 = .ok (.bastore, 1) := by decide +kernel
theorem dX5_mark_34 : decode cX5_mark 34 = .ok (.iconst 1, 1) := by decide +kernel
theorem dX5_mark_35 : decode cX5_mark 35 = .ok (.ireturn, 1) := by decide +kernel
theorem dX5_add_0 : decode cX5_add 0 = .ok (.aload_n 0, 1) := by decide +kernel
theorem dX5_add_1 : decode cX5_add 1 = .ok (.getfield 73, 3) := by decide +kernel
theorem dX5_add_4 : decode cX5_add 4 = .ok (.bipush 40, 2) := by decide +kernel
theorem dX5_add_6 : decode cX5_add 6 = .ok (.if_icmp .ne 5, 3) := by decide +kernel
theorem dX5_add_9 : decode cX5_add 9 = .ok (.iconst (-1), 1) := by decide +kernel
theorem dX5_add_10 : decode cX5_add 10 = .ok (.ireturn, 1) := by decide +kernel
theorem dX5_add_11 : decode cX5_add 11 = .ok (.aload_n 0, 1) := by decide +kernel
theorem dX5_add_12 : decode cX5_add 12 = .ok (.getfield 17, 3) := by decide +kernel
theorem dX5_add_15 : decode cX5_add 15 = .ok (.aload_n 0, 1) := by decide +kernel
theorem dX5_add_16 : decode cX5_add 16 = .ok (.getfield 73, 3) := by decide +kernel
theorem dX5_add_19 : decode cX5_add 19 = .ok (.iload_n 1, 1) := by decide +kernel
theorem dX5_add_20 : decode cX5_add 20 = .ok (.iastore, 1) := by decide +kernel
theorem dX5_add_21 : decode cX5_add 21 = .ok (.aload_n 0, 1) := by decide +kernel
theorem dX5_add_22 : decode cX5_add 22 = .ok (.getfield 20, 3) := by decide +kernel
theorem dX5_add_25 : decode cX5_add 25 = .ok (.aload_n 0, 1) := by decide +kernel
theorem dX5_add_26 : decode cX5_add 26 = .ok (.getfield 73, 3) := by decide +kernel
theorem dX5_add_29 : decode cX5_add 29 = .ok (.iload_n 2, 1) := by decide +kernel
theorem dX5_add_30 : decode cX5_add 30 = .ok (.iastore, 1) := by decide +kernel
theorem dX5_add_31 : decode cX5_add 31 = .ok (.aload_n 0, 1) := by decide +kernel
theorem dX5_add_32 : decode cX5_add 32 = .ok (.getfield 23, 3) := by decide +kernel
theorem dX5_add_35 : decode cX5_add 35 = .ok (.aload_n 0, 1) := by decide +kernel
theorem dX5_add_36 : decode cX5_add 36 = .ok (.getfield 73, 3) := by decide +kernel
theorem dX5_add_39 : decode cX5_add 39 = .ok (.iload_n 3, 1) := by decide +kernel
theorem dX5_add_40 : decode cX5_add 40 = .ok (.iastore, 1) := by decide +kernel
theorem dX5_add_41 : decode cX5_add 41 = .ok (.aload_n 0, 1) := by decide +kernel
theorem dX5_add_42 : decode cX5_add 42 = .ok (.aload_n 0, 1) := by decide +kernel
theorem dX5_add_43 : decode cX5_add 43 = .ok (.getfield 73, 3) := by decide +kernel
theorem dX5_add_46 : decode cX5_add 46 = .ok (.iconst 1, 1) := by decide +kernel
theorem dX5_add_47 : decode cX5_add 47 = .ok (.iadd, 1) := by decide +kernel
theorem dX5_add_48 : decode cX5_add 48 = .ok (.putfield 73, 3) := by decide +kernel
theorem dX5_add_51 : decode cX5_add 51 = .ok (.aload_n 0, 1) := by decide +kernel
theorem dX5_add_52 : decode cX5_add 52 = .ok (.getfield 73, 3) := by decide +kernel
theorem dX5_add_55 : decode cX5_add 55 = .ok (.iconst 1, 1) := by decide +kernel
theorem dX5_add_56 : decode cX5_add 56 = .ok (.isub, 1) := by decide +kernel
theorem dX5_add_57 : decode cX5_add 57 = .ok (.ireturn, 1) := by decide +kernel
set_option maxRecDepth 20000 in
theorem ggX5_make_X5_within : GoodIn wsX5_make wsX5_within := goodIn_r _ [5] (by decide +kernel) (by decide +kernel)
set_option maxRecDepth 20000 in
theorem gX5_make_X5_within : GoodIn wsX5_make (va_wsS RX5 69 yX5_within wsX5_within) := goodIn_app (goodIn_of _ (by decide +kernel)) ggX5_make_X5_within
set_option maxRecDepth 20000 in
theorem ggX5_make_X5_add : GoodIn wsX5_make wsX5_add := goodIn_r _ [9, 10, 11, 12, 13, 14, 15, 16, 17, 18, 19, 20, 21, 22, 23, 24, 25, 26, 27, 28, 29, 30, 31, 32, 33, 34, 35, 36, 37, 38] (by decide +kernel) (by decide +kernel)
set_option maxRecDepth 20000 in
theorem gX5_make_X5_add : GoodIn wsX5_make (wsV RX5 76 RX5 yX5_add wsX5_add) := goodIn_app (goodIn_of _ (by decide +kernel)) ggX5_make_X5_add
theorem dX5_make_0 : decode cX5_make 0 = .ok (.aload_n 0, 1) := by decide +kernel
theorem dX5_make_1 : decode cX5_make 1 = .ok (.iconst 0, 1) := by decide +kernel
theorem dX5_make_2 : decode cX5_make 2 = .ok (.putfield 66, 3) := by decide +kernel
theorem dX5_make_5 : decode cX5_make 5 = .ok (.iload_n 1, 1) := by decide +kernel
theorem dX5_make_6 : decode cX5_make 6 = .ok (.iconst 3, 1) := by decide +kernel
theorem dX5_make_7 : decode cX5_make 7 = .ok (.invokestatic 69, 3) := by decide +kernel
theorem dX5_make_10 : decode cX5_make 10 = .ok (.ifCond .eq 21, 3) := by decide +kernel
theorem dX5_make_13 : decode cX5_make 13 = .ok (.iload_n 2, 1) := by decide +kernel
theorem dX5_make_14 : decode cX5_make 14 = .ok (.iconst 2, 1) := by decide +kernel
theorem dX5_make_15 : decode cX5_make 15 = .ok (.invokestatic 69, 3) := by decide +kernel
theorem dX5_make_18 : decode cX5_make 18 = .ok (.ifCond .eq 13, 3) := by decide +kernel
theorem dX5_make_21 : decode cX5_make 21 = .ok (.aload_n 0, 1) := by decide +kernel
theorem dX5_make_22 : decode cX5_make 22 = .ok (.iconst 0, 1) := by decide +kernel
theorem dX5_make_23 : decode cX5_make 23 = .ok (.iload_n 1, 1) := by decide +kernel
theorem dX5_make_24 : decode cX5_make 24 = .ok (.iload_n 2, 1) := by decide +kernel
theorem dX5_make_25 : decode cX5_make 25 = .ok (.invokevirtual 76, 3) := by decide +kernel
theorem dX5_make_28 : decode cX5_make 28 = .ok (.goto 4, 3) := by decide +kernel
theorem dX5_make_31 : decode cX5_make 31 = .ok (.iconst (-1), 1) := by decide +kernel
theorem dX5_make_32 : decode cX5_make 32 = .ok (.ireturn, 1) := by decide +kernel
set_option maxRecDepth 20000 in
theorem ggX5_call_X5_within : GoodIn wsX5_call wsX5_within := goodIn_r _ [5] (by decide +kernel) (by decide +kernel)
set_option maxRecDepth 20000 in
theorem gX5_call_X5_within : GoodIn wsX5_call (va_wsS RX5 69 yX5_within wsX5_within) := goodIn_app (goodIn_of _ (by decide +kernel)) ggX5_call_X5_within
set_option maxRecDepth 20000 in
theorem ggX5_call_X5_add : GoodIn wsX5_call wsX5_add := goodIn_r _ [9, 10, 11, 12, 13, 14, 15, 16, 17, 18, 19, 20, 21, 22, 23, 24, 25, 26, 27, 28, 29, 30, 31, 32, 33, 34, 35, 36, 37, 38] (by decide +kernel) (by decide +kernel)
set_option maxRecDepth 20000 in
theorem gX5_call_X5_add : GoodIn wsX5_call (wsV RX5 76 RX5 yX5_add wsX5_add) := goodIn_app (goodIn_of _ (by decide +kernel)) ggX5_call_X5_add
theorem dX5_call_0 : decode cX5_call 0 = .ok (.aload_n 0, 1) := by decide +kernel
theorem dX5_call_1 : decode cX5_call 1 = .ok (.iconst 0, 1) := by decide +kernel
theorem dX5_call_2 : decode cX5_call 2 = .ok (.putfield 66, 3) := by decide +kernel
theorem dX5_call_5 : decode cX5_call 5 = .ok (.iload_n 1, 1) := by decide +kernel
theorem dX5_call_6 : decode cX5_call 6 = .ok (.iconst 3, 1) := by decide +kernel
theorem dX5_call_7 : decode cX5_call 7 = .ok (.invokestatic 69, 3) := by decide +kernel
theorem dX5_call_10 : decode cX5_call 10 = .ok (.ifCond .eq 21, 3) := by decide +kernel
theorem dX5_call_13 : decode cX5_call 13 = .ok (.iload_n 2, 1) := by decide +kernel
theorem dX5_call_14 : decode cX5_call 14 = .ok (.iconst 3, 1) := by decide +kernel
theorem dX5_call_15 : decode cX5_call 15 = .ok (.invokestatic 69, 3) := by decide +kernel
theorem dX5_call_18 : decode cX5_call 18 = .ok (.ifCond .eq 13, 3) := by decide +kernel
theorem dX5_call_21 : decode cX5_call 21 = .ok (.aload_n 0, 1) := by decide +kernel
theorem dX5_call_22 : decode cX5_call 22 = .ok (.iconst 1, 1) := by decide +kernel
theorem dX5_call_23 : decode cX5_call 23 = .ok (.iload_n 1, 1) := by decide +kernel
theorem dX5_call_24 : decode cX5_call 24 = .ok (.iload_n 2, 1) := by decide +kernel
theorem dX5_call_25 : decode cX5_call 25 = .ok (.invokevirtual 76, 3) := by decide +kernel
theorem dX5_call_28 : decode cX5_call 28 = .ok (.goto 4, 3) := by decide +kernel
theorem dX5_call_31 : decode cX5_call 31 = .ok (.iconst (-1), 1) := by decide +kernel
theorem dX5_call_32 : decode cX5_call 32 = .ok (.ireturn, 1) := by decide +kernel
set_option maxRecDepth 20000 in
theorem ggX5_move_X5_within : GoodIn wsX5_move wsX5_within := goodIn_r _ [5] (by decide +kernel) (by decide +kernel)
set_option maxRecDepth 20000 in
theorem gX5_move_X5_within : GoodIn wsX5_move (va_wsS RX5 69 yX5_within wsX5_within) := goodIn_app (goodIn_of _ (by decide +kernel)) ggX5_move_X5_within
set_option maxRecDepth 20000 in
theorem ggX5_move_X5_add : GoodIn wsX5_move wsX5_add := goodIn_r _ [9, 10, 11, 12, 13, 14, 15, 16, 17, 18, 19, 20, 21, 22, 23, 24, 25, 26, 27, 28, 29, 30, 31, 32, 33, 34, 35, 36, 37, 38] (by decide +kernel) (by decide +kernel)
set_option maxRecDepth 20000 in
theorem gX5_move_X5_add : GoodIn wsX5_move (wsV RX5 76 RX5 yX5_add wsX5_add) := goodIn_app (goodIn_of _ (by decide +kernel)) ggX5_move_X5_add
theorem dX5_move_0 : decode cX5_move 0 = .ok (.aload_n 0, 1) := by decide +kernel
theorem dX5_move_1 : decode cX5_move 1 = .ok (.iconst 0, 1) := by decide +kernel
theorem dX5_move_2 : decode cX5_move 2 = .ok (.putfield 66, 3) := by decide +kernel
theorem dX5_move_5 : decode cX5_move 5 = .ok (.iload_n 1, 1) := by decide +kernel
theorem dX5_move_6 : decode cX5_move 6 = .ok (.iconst 3, 1) := by decide +kernel
theorem dX5_move_7 : decode cX5_move 7 = .ok (.invokestatic 69, 3) := by decide +kernel
theorem dX5_move_10 : decode cX5_move 10 = .ok (.ifCond .eq 21, 3) := by decide +kernel
theorem dX5_move_13 : decode cX5_move 13 = .ok (.iload_n 2, 1) := by decide +kernel
theorem dX5_move_14 : decode cX5_move 14 = .ok (.iconst 3, 1) := by decide +kernel
theorem dX5_move_15 : decode cX5_move 15 = .ok (.invokestatic 69, 3) := by decide +kernel
theorem dX5_move_18 : decode cX5_move 18 = .ok (.ifCond .eq 13, 3) := by decide +kernel
theorem dX5_move_21 : decode cX5_move 21 = .ok (.aload_n 0, 1) := by decide +kernel
theorem dX5_move_22 : decode cX5_move 22 = .ok (.iconst 2, 1) := by decide +kernel
theorem dX5_move_23 : decode cX5_move 23 = .ok (.iload_n 1, 1) := by decide +kernel
theorem dX5_move_24 : decode cX5_move 24 = .ok (.iload_n 2, 1) := by decide +kernel
theorem dX5_move_25 : decode cX5_move 25 = .ok (.invokevirtual 76, 3) := by decide +kernel
theorem dX5_move_28 : decode cX5_move 28 = .ok (.goto 4, 3) := by decide +kernel
theorem dX5_move_31 : decode cX5_move 31 = .ok (.iconst (-1), 1) := by decide +kernel
theorem dX5_move_32 : decode cX5_move 32 = .ok (.ireturn, 1) := by decide +kernel
set_option maxRecDepth 20000 in
theorem ggX5_drop_X5_within : GoodIn wsX5_drop wsX5_within := goodIn_r _ [5] (by decide +kernel) (by decide +kernel)
set_option maxRecDepth 20000 in
theorem gX5_drop_X5_within : GoodIn wsX5_drop (va_wsS RX5 69 yX5_within wsX5_within) := goodIn_app (goodIn_of _ (by decide +kernel)) ggX5_drop_X5_within
set_option maxRecDepth 20000 in
theorem ggX5_drop_X5_add : GoodIn wsX5_drop wsX5_add := goodIn_r _ [9, 10, 11, 12, 13, 14, 15, 16, 17, 18, 19, 20, 21, 22, 23, 24, 25, 26, 27, 28, 29, 30, 31, 32, 33, 34, 35, 36, 37, 38] (by decide +kernel) (by decide +kernel)
set_option maxRecDepth 20000 in
theorem gX5_drop_X5_add : GoodIn wsX5_drop (wsV RX5 76 RX5 yX5_add wsX5_add) := goodIn_app (goodIn_of _ (by decide +kernel)) ggX5_drop_X5_add
theorem dX5_drop_0 : decode cX5_drop 0 = .ok (.aload_n 0, 1) := by decide +kernel
theorem dX5_drop_1 : decode cX5_drop 1 = .ok (.iconst 0, 1) := by decide +kernel
theorem dX5_drop_2 : decode cX5_drop 2 = .ok (.putfield 66, 3) := by decide +kernel
theorem dX5_drop_5 : decode cX5_drop 5 = .ok (.iload_n 1, 1) := by decide +kernel
theorem dX5_drop_6 : decode cX5_drop 6 = .ok (.iconst 3, 1) := by decide +kernel
theorem dX5_drop_7 : decode cX5_drop 7 = .ok (.invokestatic 69, 3) := by decide +kernel
theorem dX5_drop_10 : decode cX5_drop 10 = .ok (.ifCond .eq 13, 3) := by decide +kernel
theorem dX5_drop_13 : decode cX5_drop 13 = .ok (.aload_n 0, 1) := by decide +kernel
theorem dX5_drop_14 : decode cX5_drop 14 = .ok (.iconst 3, 1) := by decide +kernel
theorem dX5_drop_15 : decode cX5_drop 15 = .ok (.iload_n 1, 1) := by decide +kernel
theorem dX5_drop_16 : decode cX5_drop 16 = .ok (.iconst 0, 1) := by decide +kernel
theorem dX5_drop_17 : decode cX5_drop 17 = .ok (.invokevirtual 76, 3) := by decide +kernel
theorem dX5_drop_20 : decode cX5_drop 20 = .ok (.goto 4, 3) := by decide +kernel
theorem dX5_drop_23 : decode cX5_drop 23 = .ok (.iconst (-1), 1) := by decide +kernel
theorem dX5_drop_24 : decode cX5_drop 24 = .ok (.ireturn, 1) := by decide +kernel
set_option maxRecDepth 20000 in
theorem ggX5_begin_X5_add : GoodIn wsX5_begin wsX5_add := goodIn_r _ [8, 9, 10, 11, 12, 13, 14, 15, 16, 17, 18, 19, 20, 21, 22, 23, 24, 25, 26, 27, 28, 29, 30, 31, 32, 33, 34, 35, 36, 37] (by decide +kernel) (by decide +kernel)
set_option maxRecDepth 20000 in
theorem gX5_begin_X5_add : GoodIn wsX5_begin (wsV RX5 76 RX5 yX5_add wsX5_add) := goodIn_app (goodIn_of _ (by decide +kernel)) ggX5_begin_X5_add
theorem dX5_begin_0 : decode cX5_begin 0 = .ok (.aload_n 0, 1) := by decide +kernel
theorem dX5_begin_1 : decode cX5_begin 1 = .ok (.getfield 80, 3) := by decide +kernel
theorem dX5_begin_4 : decode cX5_begin 4 = .ok (.bipush 6, 2) := by decide +kernel
theorem dX5_begin_6 : decode cX5_begin 6 = .ok (.if_icmp .ne 5, 3) := by decide +kernel
theorem dX5_begin_9 : decode cX5_begin 9 = .ok (.iconst (-1), 1) := by decide +kernel
theorem dX5_begin_10 : decode cX5_begin 10 = .ok (.ireturn, 1) := by decide +kernel
theorem dX5_begin_11 : decode cX5_begin 11 = .ok (.aload_n 0, 1) := by decide +kernel
theorem dX5_begin_12 : decode cX5_begin 12 = .ok (.iload_n 1, 1) := by decide +kernel
theorem dX5_begin_13 : decode cX5_begin 13 = .ok (.iconst 0, 1) := by decide +kernel
theorem dX5_begin_14 : decode cX5_begin 14 = .ok (.iconst 0, 1) := by decide +kernel
theorem dX5_begin_15 : decode cX5_begin 15 = .ok (.invokevirtual 76, 3) := by decide +kernel
theorem dX5_begin_18 : decode cX5_begin 18 = .ok (.istore_n 2, 1) := by decide +kernel
theorem dX5_begin_19 : decode cX5_begin 19 = .ok (.iload_n 2, 1) := by decide +kernel
theorem dX5_begin_20 : decode cX5_begin 20 = .ok (.ifCond .lt 33, 3) := by decide +kernel
theorem dX5_begin_23 : decode cX5_begin 23 = .ok (.aload_n 0, 1) := by decide +kernel
theorem dX5_begin_24 : decode cX5_begin 24 = .ok (.getfield 32, 3) := by decide +kernel
theorem dX5_begin_27 : decode cX5_begin 27 = .ok (.aload_n 0, 1) := by decide +kernel
theorem dX5_begin_28 : decode cX5_begin 28 = .ok (.getfield 80, 3) := by decide +kernel
theorem dX5_begin_31 : decode cX5_begin 31 = .ok (.iload_n 2, 1) := by decide +kernel
theorem dX5_begin_32 : decode cX5_begin 32 = .ok (.iastore, 1) := by decide +kernel
theorem dX5_begin_33 : decode cX5_begin 33 = .ok (.aload_n 0, 1) := by decide +kernel
theorem dX5_begin_34 : decode cX5_begin 34 = .ok (.getfield 35, 3) := by decide +kernel
theorem dX5_begin_37 : decode cX5_begin 37 = .ok (.aload_n 0, 1) := by decide +kernel
theorem dX5_begin_38 : decode cX5_begin 38 = .ok (.getfield 80, 3) := by decide +kernel
theorem dX5_begin_41 : decode cX5_begin 41 = .ok (.iconst 0, 1) := by decide +kernel
theorem dX5_begin_42 : decode cX5_begin 42 = .ok (.bastore, 1) := by decide +kernel
theorem dX5_begin_43 : decode cX5_begin 43 = .ok (.aload_n 0, 1) := by decide +kernel
theorem dX5_begin_44 : decode cX5_begin 44 = .ok (.aload_n 0, 1) := by decide +kernel
theorem dX5_begin_45 : decode cX5_begin 45 = .ok (.getfield 80, 3) := by decide +kernel
theorem dX5_begin_48 : decode cX5_begin 48 = .ok (.iconst 1, 1) := by decide +kernel
theorem dX5_begin_49 : decode cX5_begin 49 = .ok (.iadd, 1) := by decide +kernel
theorem dX5_begin_50 : decode cX5_begin 50 = .ok (.putfield 80, 3) := by decide +kernel
theorem dX5_begin_53 : decode cX5_begin 53 = .ok (.iload_n 2, 1) := by decide +kernel
theorem dX5_begin_54 : decode cX5_begin 54 = .ok (.ireturn, 1) := by decide +kernel
set_option maxRecDepth 20000 in
theorem ggX5_choose_X5_begin : GoodIn wsX5_choose wsX5_begin := goodIn_r _ [6, 7, 8, 9, 10, 11, 12, 5, 13, 14, 15, 16, 17, 18, 19, 20, 21, 22, 23, 24, 25, 26, 27, 28, 29, 30, 31, 32, 33, 34, 35, 36, 37, 38, 39, 40, 41, 42] (by decide +kernel) (by decide +kernel)
set_option maxRecDepth 20000 in
theorem gX5_choose_X5_begin : GoodIn wsX5_choose (wsV RX5 83 RX5 yX5_begin wsX5_begin) := goodIn_app (goodIn_of _ (by decide +kernel)) ggX5_choose_X5_begin
theorem dX5_choose_0 : decode cX5_choose 0 = .ok (.aload_n 0, 1) := by decide +kernel
theorem dX5_choose_1 : decode cX5_choose 1 = .ok (.iconst 0, 1) := by decide +kernel
theorem dX5_choose_2 : decode cX5_choose 2 = .ok (.putfield 66, 3) := by decide +kernel
theorem dX5_choose_5 : decode cX5_choose 5 = .ok (.aload_n 0, 1) := by decide +kernel
theorem dX5_choose_6 : decode cX5_choose 6 = .ok (.iconst 4, 1) := by decide +kernel
theorem dX5_choose_7 : decode cX5_choose 7 = .ok (.invokevirtual 83, 3) := by decide +kernel
theorem dX5_choose_10 : decode cX5_choose 10 = .ok (.ireturn, 1) := by decide +kernel
set_option maxRecDepth 20000 in
theorem ggX5_repeat_X5_begin : GoodIn wsX5_repeat wsX5_begin := goodIn_r _ [6, 7, 8, 9, 10, 11, 12, 5, 13, 14, 15, 16, 17, 18, 19, 20, 21, 22, 23, 24, 25, 26, 27, 28, 29, 30, 31, 32, 33, 34, 35, 36, 37, 38, 39, 40, 41, 42] (by decide +kernel) (by decide +kernel)
set_option maxRecDepth 20000 in
theorem gX5_repeat_X5_begin : GoodIn wsX5_repeat (wsV RX5 83 RX5 yX5_begin wsX5_begin) := goodIn_app (goodIn_of _ (by decide +kernel)) ggX5_repeat_X5_begin
theorem dX5_repeat_0 : decode cX5_repeat 0 = .ok (.aload_n 0, 1) := by decide +kernel
theorem dX5_repeat_1 : decode cX5_repeat 1 = .ok (.iconst 0, 1) := by decide +kernel
theorem dX5_repeat_2 : decode cX5_repeat 2 = .ok (.putfield 66, 3) := by decide +kernel
theorem dX5_repeat_5 : decode cX5_repeat 5 = .ok (.aload_n 0, 1) := by decide +kernel
theorem dX5_repeat_6 : decode cX5_repeat 6 = .ok (.iconst 5, 1) := by decide +kernel
theorem dX5_repeat_7 : decode cX5_repeat 7 = .ok (.invokevirtual 83, 3) := by decide +kernel
theorem dX5_repeat_10 : decode cX5_repeat 10 = .ok (.ireturn, 1) := by decide +kernel
theorem dX5_otherwise_0 : decode cX5_otherwise 0 = .ok (.aload_n 0, 1) := by decide +kernel
theorem dX5_otherwise_1 : decode cX5_otherwise 1 = .ok (.iconst 0, 1) := by decide +kernel
theorem dX5_otherwise_2 : decode cX5_otherwise 2 = .ok (.putfield 66, 3) := by decide +kernel
theorem dX5_otherwise_5 : decode cX5_otherwise 5 = .ok (.aload_n 0, 1) := by decide +kernel
theorem dX5_otherwise_6 : decode cX5_otherwise 6 = .ok (.getfield 80, 3) := by decide +kernel
theorem dX5_otherwise_9 : decode cX5_otherwise 9 = .ok (.ifCond .eq 37, 3) := by decide +kernel
theorem dX5_otherwise_12 : decode cX5_otherwise 12 = .ok (.aload_n 0, 1) := by decide +kernel
theorem dX5_otherwise_13 : decode cX5_otherwise 13 = .ok (.getfield 17, 3) := by decide +kernel
theorem dX5_otherwise_16 : decode cX5_otherwise 16 = .ok (.aload_n 0, 1) := by decide +kernel
theorem dX5_otherwise_17 : decode cX5_otherwise 17 = .ok (.getfield 32, 3) := by decide +kernel
theorem dX5_otherwise_20 : decode cX5_otherwise 20 = .ok (.aload_n 0, 1) := by decide +kernel
theorem dX5_otherwise_21 : decode cX5_otherwise 21 = .ok (.getfield 80, 3) := by decide +kernel
theorem dX5_otherwise_24 : decode cX5_otherwise 24 = .ok (.iconst 1, 1) := by decide +kernel
theorem dX5_otherwise_25 : decode cX5_otherwise 25 = .ok (.isub, 1) := by decide +kernel
theorem dX5_otherwise_26 : decode cX5_otherwise 26 = .ok (.iaload, 1) := by decide +kernel
theorem dX5_otherwise_27 : decode cX5_otherwise 27 = .ok (.iaload, 1) := by decide +kernel
theorem dX5_otherwise_28 : decode cX5_otherwise 28 = .ok (.iconst 4, 1) := by decide +kernel
theorem dX5_otherwise_29 : decode cX5_otherwise 29 = .ok (.if_icmp .ne 17, 3) := by decide +kernel
theorem dX5_otherwise_32 : decode cX5_otherwise 32 = .ok (.aload_n 0, 1) := by decide +kernel
theorem dX5_otherwise_33 : decode cX5_otherwise 33 = .ok (.getfield 35, 3) := by decide +kernel
theorem dX5_otherwise_36 : decode cX5_otherwise 36 = .ok (.aload_n 0, 1) := by decide +kernel
theorem dX5_otherwise_37 : decode cX5_otherwise 37 = .ok (.getfield 80, 3) := by decide +kernel
theorem dX5_otherwise_40 : decode cX5_otherwise 40 = .ok (.iconst 1, 1) := by decide +kernel
theorem dX5_otherwise_41 : decode cX5_otherwise 41 = .ok (.isub, 1) := by decide +kernel
theorem dX5_otherwise_42 : decode cX5_otherwise 42 = .ok (.baload, 1) := by decide +kernel
theorem dX5_otherwise_43 : decode cX5_otherwise 43 = .ok (.ifCond .eq 5, 3) := by decide +kernel
theorem dX5_otherwise_46 : decode cX5_otherwise 46 = .ok (.iconst 0, 1) := by decide +kernel
theorem dX5_otherwise_47 : decode cX5_otherwise 47 = .ok (.ireturn, 1) := by decide +kernel
theorem dX5_otherwise_48 : decode cX5_otherwise 48 = .ok (.aload_n 0, 1) := by decide +kernel
theorem dX5_otherwise_49 : decode cX5_otherwise 49 = .ok (.getfield 35, 3) := by decide +kernel
theorem dX5_otherwise_52 : decode cX5_otherwise 52 = .ok (.aload_n 0, 1) := by decide +kernel
theorem dX5_otherwise_53 : decode cX5_otherwise 53 = .ok (.getfield 80, 3) := by decide +kernel
theorem dX5_otherwise_56 : decode cX5_otherwise 56 = .ok (.iconst 1, 1) := by decide +kernel
theorem dX5_otherwise_57 : decode cX5_otherwise 57 = .ok (.isub, 1) := by decide +kernel
theorem dX5_otherwise_58 : decode cX5_otherwise 58 = .ok (.iconst 1, 1) := by decide +kernel
theorem dX5_otherwise_59 : decode cX5_otherwise 59 = .ok (.bastore, 1) := by decide +kernel
theorem dX5_otherwise_60 : decode cX5_otherwise 60 = .ok (.aload_n 0, 1) := by decide +kernel
theorem dX5_otherwise_61 : decode cX5_otherwise 61 = .ok (.getfield 26, 3) := by decide +kernel
theorem dX5_otherwise_64 : decode cX5_otherwise 64 = .ok (.aload_n 0, 1) := by decide +kernel
theorem dX5_otherwise_65 : decode cX5_otherwise 65 = .ok (.getfield 32, 3) := by decide +kernel
theorem dX5_otherwise_68 : decode cX5_otherwise 68 = .ok (.aload_n 0, 1) := by decide +kernel
theorem dX5_otherwise_69 : decode cX5_otherwise 69 = .ok (.getfield 80, 3) := by decide +kernel
theorem dX5_otherwise_72 : decode cX5_otherwise 72 = .ok (.iconst 1, 1) := by decide +kernel
theorem dX5_otherwise_73 : decode cX5_otherwise 73 = .ok (.isub, 1) := by decide +kernel
theorem dX5_otherwise_74 : decode cX5_otherwise 74 = .ok (.iaload, 1) := by decide +kernel
theorem dX5_otherwise_75 : decode cX5_otherwise 75 = .ok (.aload_n 0, 1) := by decide +kernel
theorem dX5_otherwise_76 : decode cX5_otherwise 76 = .ok (.getfield 73, 3) := by decide +kernel
theorem dX5_otherwise_79 : decode cX5_otherwise 79 = .ok (.iastore, 1) := by decide +kernel
theorem dX5_otherwise_80 : decode cX5_otherwise 80 = .ok (.iconst 1, 1) := by decide +kernel
theorem dX5_otherwise_81 : decode cX5_otherwise 81 = .ok (.ireturn, 1) := by decide +kernel
theorem dX5_end_0 : decode cX5_end 0 = .ok (.aload_n 0, 1) := by decide +kernel
theorem dX5_end_1 : decode cX5_end 1 = .ok (.iconst 0, 1) := by decide +kernel
theorem dX5_end_2 : decode cX5_end 2 = .ok (.putfield 66, 3) := by decide +kernel
theorem dX5_end_5 : decode cX5_end 5 = .ok (.aload_n 0, 1) := by decide +kernel
theorem dX5_end_6 : decode cX5_end 6 = .ok (.getfield 80, 3) := by decide +kernel
theorem dX5_end_9 : decode cX5_end 9 = .ok (.ifCond .ne 5, 3) := by decide +kernel
theorem dX5_end_12 : decode cX5_end 12 = .ok (.iconst 0, 1) := by decide +kernel
theorem dX5_end_13 : decode cX5_end 13 = .ok (.ireturn, 1) := by decide +kernel
theorem dX5_end_14 : decode cX5_end 14 = .ok (.aload_n 0, 1) := by decide +kernel
theorem dX5_end_15 : decode cX5_end 15 = .ok (.aload_n 0, 1) := by decide +kernel
theorem dX5_end_16 : decode cX5_end 16 = .ok (.getfield 80, 3) := by decide +kernel
theorem dX5_end_19 : decode cX5_end 19 = .ok (.iconst 1, 1) := by decide +kernel
theorem dX5_end_20 : decode cX5_end 20 = .ok (.isub, 1) := by decide +kernel
theorem dX5_end_21 : decode cX5_end 21 = .ok (.putfield 80, 3) := by decide +kernel
theorem dX5_end_24 : decode cX5_end 24 = .ok (.aload_n 0, 1) := by decide +kernel
theorem dX5_end_25 : decode cX5_end 25 = .ok (.getfield 32, 3) := by decide +kernel
theorem dX5_end_28 : decode cX5_end 28 = .ok (.aload_n 0, 1) := by decide +kernel
theorem dX5_end_29 : decode cX5_end 29 = .ok (.getfield 80, 3) := by decide +kernel
theorem dX5_end_32 : decode cX5_end 32 = .ok (.iaload, 1) := by decide +kernel
theorem dX5_end_33 : decode cX5_end 33 = .ok (.istore_n 1, 1) := by decide +kernel
theorem dX5_end_34 : decode cX5_end 34 = .ok (.aload_n 0, 1) := by decide +kernel
theorem dX5_end_35 : decode cX5_end 35 = .ok (.getfield 35, 3) := by decide +kernel
theorem dX5_end_38 : decode cX5_end 38 = .ok (.aload_n 0, 1) := by decide +kernel
theorem dX5_end_39 : decode cX5_end 39 = .ok (.getfield 80, 3) := by decide +kernel
theorem dX5_end_42 : decode cX5_end 42 = .ok (.baload, 1) := by decide +kernel
theorem dX5_end_43 : decode cX5_end 43 = .ok (.ifCond .ne 13, 3) := by decide +kernel
theorem dX5_end_46 : decode cX5_end 46 = .ok (.aload_n 0, 1) := by decide +kernel
theorem dX5_end_47 : decode cX5_end 47 = .ok (.getfield 26, 3) := by decide +kernel
theorem dX5_end_50 : decode cX5_end 50 = .ok (.iload_n 1, 1) := by decide +kernel
theorem dX5_end_51 : decode cX5_end 51 = .ok (.aload_n 0, 1) := by decide +kernel
theorem dX5_end_52 : decode cX5_end 52 = .ok (.getfield 73, 3) := by decide +kernel
theorem dX5_end_55 : decode cX5_end 55 = .ok (.iastore, 1) := by decide +kernel
theorem dX5_end_56 : decode cX5_end 56 = .ok (.aload_n 0, 1) := by decide +kernel
theorem dX5_end_57 : decode cX5_end 57 = .ok (.getfield 29, 3) := by decide +kernel
theorem dX5_end_60 : decode cX5_end 60 = .ok (.iload_n 1, 1) := by decide +kernel
theorem dX5_end_61 : decode cX5_end 61 = .ok (.aload_n 0, 1) := by decide +kernel
theorem dX5_end_62 : decode cX5_end 62 = .ok (.getfield 73, 3) := by decide +kernel
theorem dX5_end_65 : decode cX5_end 65 = .ok (.iastore, 1) := by decide +kernel
theorem dX5_end_66 : decode cX5_end 66 = .ok (.iconst 1, 1) := by decide +kernel
theorem dX5_end_67 : decode cX5_end 67 = .ok (.ireturn, 1) := by decide +kernel
theorem dX5_clear_0 : decode cX5_clear 0 = .ok (.aload_n 0, 1) := by decide +kernel
theorem dX5_clear_1 : decode cX5_clear 1 = .ok (.iconst 0, 1) := by decide +kernel
theorem dX5_clear_2 : decode cX5_clear 2 = .ok (.putfield 66, 3) := by decide +kernel
theorem dX5_clear_5 : decode cX5_clear 5 = .ok (.aload_n 0, 1) := by decide +kernel
theorem dX5_clear_6 : decode cX5_clear 6 = .ok (.iconst 0, 1) := by decide +kernel
theorem dX5_clear_7 : decode cX5_clear 7 = .ok (.putfield 73, 3) := by decide +kernel
theorem dX5_clear_10 : decode cX5_clear 10 = .ok (.aload_n 0, 1) := by decide +kernel
theorem dX5_clear_11 : decode cX5_clear 11 = .ok (.iconst 0, 1) := by decide +kernel
theorem dX5_clear_12 : decode cX5_clear 12 = .ok (.putfield 80, 3) := by decide +kernel
theorem dX5_clear_15 : decode cX5_clear 15 = .ok (.return_, 1) := by decide +kernel
theorem dX5_size_0 : decode cX5_size 0 = .ok (.aload_n 0, 1) := by decide +kernel
theorem dX5_size_1 : decode cX5_size 1 = .ok (.iconst 0, 1) := by decide +kernel
theorem dX5_size_2 : decode cX5_size 2 = .ok (.putfield 66, 3) := by decide +kernel
theorem dX5_size_5 : decode cX5_size 5 = .ok (.aload_n 0, 1) := by decide +kernel
theorem dX5_size_6 : decode cX5_size 6 = .ok (.getfield 73, 3) := by decide +kernel
theorem dX5_size_9 : decode cX5_size 9 = .ok (.ireturn, 1) := by decide +kernel
end
section
theorem dX5_work_0 : decode cX5_work 0 = .ok (.aload_n 0, 1) := by decide +kernel
theorem dX5_work_1 : decode cX5_work 1 = .ok (.getfield 20, 3) := by decide +kernel
theorem dX5_work_4 : decode cX5_work 4 = .ok (.iload_n 1, 1) := by decide +kernel
theorem dX5_work_5 : decode cX5_work 5 = .ok (.iaload, 1) := by decide +kernel
theorem dX5_work_6 : decode cX5_work 6 = .ok (.istore_n 2, 1) := by decide +kernel
theorem dX5_work_7 : decode cX5_work 7 = .ok (.aload_n 0, 1) := by decide +kernel
theorem dX5_work_8 : decode cX5_work 8 = .ok (.getfield 23, 3) := by decide +kernel
theorem dX5_work_11 : decode cX5_work 11 = .ok (.iload_n 1, 1) := by decide +kernel
theorem dX5_work_12 : decode cX5_work 12 = .ok (.iaload, 1) := by decide +kernel
theorem dX5_work_13 : decode cX5_work 13 = .ok (.istore_n 3, 1) := by decide +kernel
theorem dX5_work_14 : decode cX5_work 14 = .ok (.aload_n 0, 1) := by decide +kernel
theorem dX5_work_15 : decode cX5_work 15 = .ok (.getfield 38, 3) := by decide +kernel
theorem dX5_work_18 : decode cX5_work 18 = .ok (.iload_n 2, 1) := by decide +kernel
theorem dX5_work_19 : decode cX5_work 19 = .ok (.iaload, 1) := by decide +kernel
theorem dX5_work_20 : decode cX5_work 20 = .ok (.istore 4, 2) := by decide +kernel
theorem dX5_work_22 : decode cX5_work 22 = .ok (.aload_n 0, 1) := by decide +kernel
theorem dX5_work_23 : decode cX5_work 23 = .ok (.getfield 17, 3) := by decide +kernel
theorem dX5_work_26 : decode cX5_work 26 = .ok (.iload_n 1, 1) := by decide +kernel
theorem dX5_work_27 : decode cX5_work 27 = .ok (.iaload, 1) := by decide +kernel
theorem dX5_work_28 : decode cX5_work 28 = .ok (.ifCond .ne 22, 3) := by decide +kernel
theorem dX5_work_31 : decode cX5_work 31 = .ok (.iload 4, 2) := by decide +kernel
theorem dX5_work_33 : decode cX5_work 33 = .ok (.ifCond .lt 5, 3) := by decide +kernel
theorem dX5_work_36 : decode cX5_work 36 = .ok (.iconst 1, 1) := by decide +kernel
theorem dX5_work_37 : decode cX5_work 37 = .ok (.ireturn, 1) := by decide +kernel
theorem dX5_work_38 : decode cX5_work 38 = .ok (.aload_n 0, 1) := by decide +kernel
theorem dX5_work_39 : decode cX5_work 39 = .ok (.getfield 38, 3) := by decide +kernel
theorem dX5_work_42 : decode cX5_work 42 = .ok (.iload_n 2, 1) := by decide +kernel
theorem dX5_work_43 : decode cX5_work 43 = .ok (.bipush 8, 2) := by decide +kernel
theorem dX5_work_45 : decode cX5_work 45 = .ok (.iload_n 3, 1) := by decide +kernel
theorem dX5_work_46 : decode cX5_work 46 = .ok (.imul, 1) := by decide +kernel
theorem dX5_work_47 : decode cX5_work 47 = .ok (.iastore, 1) := by decide +kernel
theorem dX5_work_48 : decode cX5_work 48 = .ok (.iconst 0, 1) := by decide +kernel
theorem dX5_work_49 : decode cX5_work 49 = .ok (.ireturn, 1) := by decide +kernel
theorem dX5_work_50 : decode cX5_work 50 = .ok (.iload 4, 2) := by decide +kernel
theorem dX5_work_52 : decode cX5_work 52 = .ok (.ifCond .ge 5, 3) := by decide +kernel
theorem dX5_work_55 : decode cX5_work 55 = .ok (.iconst 2, 1) := by decide +kernel
theorem dX5_work_56 : decode cX5_work 56 = .ok (.ireturn, 1) := by decide +kernel
theorem dX5_work_57 : decode cX5_work 57 = .ok (.aload_n 0, 1) := by decide +kernel
theorem dX5_work_58 : decode cX5_work 58 = .ok (.getfield 17, 3) := by decide +kernel
theorem dX5_work_61 : decode cX5_work 61 = .ok (.iload_n 1, 1) := by decide +kernel
theorem dX5_work_62 : decode cX5_work 62 = .ok (.iaload, 1) := by decide +kernel
theorem dX5_work_63 : decode cX5_work 63 = .ok (.iconst 1, 1) := by decide +kernel
theorem dX5_work_64 : decode cX5_work 64 = .ok (.if_icmp .ne 57, 3) := by decide +kernel
theorem dX5_work_67 : decode cX5_work 67 = .ok (.aload_n 0, 1) := by decide +kernel
theorem dX5_work_68 : decode cX5_work 68 = .ok (.getfield 7, 3) := by decide +kernel
theorem dX5_work_71 : decode cX5_work 71 = .ok (.iload 4, 2) := by decide +kernel
theorem dX5_work_73 : decode cX5_work 73 = .ok (.bipush 8, 2) := by decide +kernel
theorem dX5_work_75 : decode cX5_work 75 = .ok (.idiv, 1) := by decide +kernel
theorem dX5_work_76 : decode cX5_work 76 = .ok (.bipush 20, 2) := by decide +kernel
theorem dX5_work_78 : decode cX5_work 78 = .ok (.imul, 1) := by decide +kernel
theorem dX5_work_79 : decode cX5_work 79 = .ok (.iload 4, 2) := by decide +kernel
theorem dX5_work_81 : decode cX5_work 81 = .ok (.bipush 8, 2) := by decide +kernel
theorem dX5_work_83 : decode cX5_work 83 = .ok (.irem, 1) := by decide +kernel
theorem dX5_work_84 : decode cX5_work 84 = .ok (.iconst 4, 1) := by decide +kernel
theorem dX5_work_85 : decode cX5_work 85 = .ok (.imul, 1) := by decide +kernel
theorem dX5_work_86 : decode cX5_work 86 = .ok (.iadd, 1) := by decide +kernel
theorem dX5_work_87 : decode cX5_work 87 = .ok (.iload_n 3, 1) := by decide +kernel
theorem dX5_work_88 : decode cX5_work 88 = .ok (.iadd, 1) := by decide +kernel
theorem dX5_work_89 : decode cX5_work 89 = .ok (.iaload, 1) := by decide +kernel
theorem dX5_work_90 : decode cX5_work 90 = .ok (.istore 5, 2) := by decide +kernel
theorem dX5_work_92 : decode cX5_work 92 = .ok (.iload 5, 2) := by decide +kernel
theorem dX5_work_94 : decode cX5_work 94 = .ok (.ifCond .ne 5, 3) := by decide +kernel
theorem dX5_work_97 : decode cX5_work 97 = .ok (.iconst 3, 1) := by decide +kernel
theorem dX5_work_98 : decode cX5_work 98 = .ok (.ireturn, 1) := by decide +kernel
theorem dX5_work_99 : decode cX5_work 99 = .ok (.aload_n 0, 1) := by decide +kernel
theorem dX5_work_100 : decode cX5_work 100 = .ok (.getfield 38, 3) := by decide +kernel
theorem dX5_work_103 : decode cX5_work 103 = .ok (.iload_n 2, 1) := by decide +kernel
theorem dX5_work_104 : decode cX5_work 104 = .ok (.iload 4, 2) := by decide +kernel
theorem dX5_work_106 : decode cX5_work 106 = .ok (.bipush 8, 2) := by decide +kernel
theorem dX5_work_108 : decode cX5_work 108 = .ok (.idiv, 1) := by decide +kernel
theorem dX5_work_109 : decode cX5_work 109 = .ok (.bipush 8, 2) := by decide +kernel
theorem dX5_work_111 : decode cX5_work 111 = .ok (.imul, 1) := by decide +kernel
theorem dX5_work_112 : decode cX5_work 112 = .ok (.iload 5, 2) := by decide +kernel
theorem dX5_work_114 : decode cX5_work 114 = .ok (.iadd, 1) := by decide +kernel
theorem dX5_work_115 : decode cX5_work 115 = .ok (.iconst 1, 1) := by decide +kernel
theorem dX5_work_116 : decode cX5_work 116 = .ok (.isub, 1) := by decide +kernel
theorem dX5_work_117 : decode cX5_work 117 = .ok (.iastore, 1) := by decide +kernel
theorem dX5_work_118 : decode cX5_work 118 = .ok (.goto 72, 3) := by decide +kernel
theorem dX5_work_121 : decode cX5_work 121 = .ok (.aload_n 0, 1) := by decide +kernel
theorem dX5_work_122 : decode cX5_work 122 = .ok (.getfield 17, 3) := by decide +kernel
theorem dX5_work_125 : decode cX5_work 125 = .ok (.iload_n 1, 1) := by decide +kernel
theorem dX5_work_126 : decode cX5_work 126 = .ok (.iaload, 1) := by decide +kernel
theorem dX5_work_127 : decode cX5_work 127 = .ok (.iconst 2, 1) := by decide +kernel
theorem dX5_work_128 : decode cX5_work 128 = .ok (.if_icmp .ne 32, 3) := by decide +kernel
theorem dX5_work_131 : decode cX5_work 131 = .ok (.aload_n 0, 1) := by decide +kernel
theorem dX5_work_132 : decode cX5_work 132 = .ok (.getfield 38, 3) := by decide +kernel
theorem dX5_work_135 : decode cX5_work 135 = .ok (.iload_n 3, 1) := by decide +kernel
theorem dX5_work_136 : decode cX5_work 136 = .ok (.iaload, 1) := by decide +kernel
theorem dX5_work_137 : decode cX5_work 137 = .ok (.ifCond .lt 5, 3) := by decide +kernel
theorem dX5_work_140 : decode cX5_work 140 = .ok (.iconst 1, 1) := by decide +kernel
theorem dX5_work_141 : decode cX5_work 141 = .ok (.ireturn, 1) := by decide +kernel
theorem dX5_work_142 : decode cX5_work 142 = .ok (.aload_n 0, 1) := by decide +kernel
theorem dX5_work_143 : decode cX5_work 143 = .ok (.getfield 38, 3) := by decide +kernel
theorem dX5_work_146 : decode cX5_work 146 = .ok (.iload_n 3, 1) := by decide +kernel
theorem dX5_work_147 : decode cX5_work 147 = .ok (.iload 4, 2) := by decide +kernel
theorem dX5_work_149 : decode cX5_work 149 = .ok (.iastore, 1) := by decide +kernel
theorem dX5_work_150 : decode cX5_work 150 = .ok (.aload_n 0, 1) := by decide +kernel
theorem dX5_work_151 : decode cX5_work 151 = .ok (.getfield 38, 3) := by decide +kernel
theorem dX5_work_154 : decode cX5_work 154 = .ok (.iload_n 2, 1) := by decide +kernel
theorem dX5_work_155 : decode cX5_work 155 = .ok (.iconst (-1), 1) := by decide +kernel
theorem dX5_work_156 : decode cX5_work 156 = .ok (.iastore, 1) := by decide +kernel
theorem dX5_work_157 : decode cX5_work 157 = .ok (.goto 33, 3) := by decide +kernel
theorem dX5_work_160 : decode cX5_work 160 = .ok (.aload_n 0, 1) := by decide +kernel
theorem dX5_work_161 : decode cX5_work 161 = .ok (.getfield 13, 3) := by decide +kernel
theorem dX5_work_164 : decode cX5_work 164 = .ok (.iload 4, 2) := by decide +kernel
theorem dX5_work_166 : decode cX5_work 166 = .ok (.bipush 8, 2) := by decide +kernel
theorem dX5_work_168 : decode cX5_work 168 = .ok (.idiv, 1) := by decide +kernel
theorem dX5_work_169 : decode cX5_work 169 = .ok (.iconst 5, 1) := by decide +kernel
theorem dX5_work_170 : decode cX5_work 170 = .ok (.imul, 1) := by decide +kernel
theorem dX5_work_171 : decode cX5_work 171 = .ok (.iload 4, 2) := by decide +kernel
theorem dX5_work_173 : decode cX5_work 173 = .ok (.bipush 8, 2) := by decide +kernel
theorem dX5_work_175 : decode cX5_work 175 = .ok (.irem, 1) := by decide +kernel
theorem dX5_work_176 : decode cX5_work 176 = .ok (.iadd, 1) := by decide +kernel
theorem dX5_work_177 : decode cX5_work 177 = .ok (.baload, 1) := by decide +kernel
theorem dX5_work_178 : decode cX5_work 178 = .ok (.ifCond .ne 5, 3) := by decide +kernel
theorem dX5_work_181 : decode cX5_work 181 = .ok (.iconst 4, 1) := by decide +kernel
theorem dX5_work_182 : decode cX5_work 182 = .ok (.ireturn, 1) := by decide +kernel
theorem dX5_work_183 : decode cX5_work 183 = .ok (.aload_n 0, 1) := by decide +kernel
theorem dX5_work_184 : decode cX5_work 184 = .ok (.getfield 38, 3) := by decide +kernel
theorem dX5_work_187 : decode cX5_work 187 = .ok (.iload_n 2, 1) := by decide +kernel
theorem dX5_work_188 : decode cX5_work 188 = .ok (.iconst (-1), 1) := by decide +kernel
theorem dX5_work_189 : decode cX5_work 189 = .ok (.iastore, 1) := by decide +kernel
theorem dX5_work_190 : decode cX5_work 190 = .ok (.iconst 0, 1) := by decide +kernel
theorem dX5_work_191 : decode cX5_work 191 = .ok (.ireturn, 1) := by decide +kernel
theorem dX5_unfinished_0 : decode cX5_unfinished 0 = .ok (.iconst 0, 1) := by decide +kernel
theorem dX5_unfinished_1 : decode cX5_unfinished 1 = .ok (.istore_n 1, 1) := by decide +kernel
theorem dX5_unfinished_2 : decode cX5_unfinished 2 = .ok (.iload_n 1, 1) := by decide +kernel
theorem dX5_unfinished_3 : decode cX5_unfinished 3 = .ok (.iconst 4, 1) := by decide +kernel
theorem dX5_unfinished_4 : decode cX5_unfinished 4 = .ok (.if_icmp .ge 49, 3) := by decide +kernel
theorem dX5_unfinished_7 : decode cX5_unfinished 7 = .ok (.aload_n 0, 1) := by decide +kernel
theorem dX5_unfinished_8 : decode cX5_unfinished 8 = .ok (.getfield 38, 3) := by decide +kernel
theorem dX5_unfinished_11 : decode cX5_unfinished 11 = .ok (.iload_n 1, 1) := by decide +kernel
theorem dX5_unfinished_12 : decode cX5_unfinished 12 = .ok (.iaload, 1) := by decide +kernel
theorem dX5_unfinished_13 : decode cX5_unfinished 13 = .ok (.ifCond .lt 34, 3) := by decide +kernel
theorem dX5_unfinished_16 : decode cX5_unfinished 16 = .ok (.aload_n 0, 1) := by decide +kernel
theorem dX5_unfinished_17 : decode cX5_unfinished 17 = .ok (.getfield 13, 3) := by decide +kernel
theorem dX5_unfinished_20 : decode cX5_unfinished 20 = .ok (.aload_n 0, 1) := by decide +kernel
theorem dX5_unfinished_21 : decode cX5_unfinished 21 = .ok (.getfield 38, 3) := by decide +kernel
theorem dX5_unfinished_24 : decode cX5_unfinished 24 = .ok (.iload_n 1, 1) := by decide +kernel
theorem dX5_unfinished_25 : decode cX5_unfinished 25 = .ok (.iaload, 1) := by decide +kernel
theorem dX5_unfinished_26 : decode cX5_unfinished 26 = .ok (.bipush 8, 2) := by decide +kernel
theorem dX5_unfinished_28 : decode cX5_unfinished 28 = .ok (.idiv, 1) := by decide +kernel
theorem dX5_unfinished_29 : decode cX5_unfinished 29 = .ok (.iconst 5, 1) := by decide +kernel
theorem dX5_unfinished_30 : decode cX5_unfinished 30 = .ok (.imul, 1) := by decide +kernel
theorem dX5_unfinished_31 : decode cX5_unfinished 31 = .ok (.aload_n 0, 1) := by decide +kernel
theorem dX5_unfinished_32 : decode cX5_unfinished 32 = .ok (.getfield 38, 3) := by decide +kernel
theorem dX5_unfinished_35 : decode cX5_unfinished 35 = .ok (.iload_n 1, 1) := by decide +kernel
theorem dX5_unfinished_36 : decode cX5_unfinished 36 = .ok (.iaload, 1) := by decide +kernel
theorem dX5_unfinished_37 : decode cX5_unfinished 37 = .ok (.bipush 8, 2) := by decide +kernel
theorem dX5_unfinished_39 : decode cX5_unfinished 39 = .ok (.irem, 1) := by decide +kernel
theorem dX5_unfinished_40 : decode cX5_unfinished 40 = .ok (.iadd, 1) := by decide +kernel
theorem dX5_unfinished_41 : decode cX5_unfinished 41 = .ok (.baload, 1) := by decide +kernel
theorem dX5_unfinished_42 : decode cX5_unfinished 42 = .ok (.ifCond .ne 5, 3) := by decide +kernel
theorem dX5_unfinished_45 : decode cX5_unfinished 45 = .ok (.iconst 1, 1) := by decide +kernel
theorem dX5_unfinished_46 : decode cX5_unfinished 46 = .ok (.ireturn, 1) := by decide +kernel
theorem dX5_unfinished_47 : decode cX5_unfinished 47 = .ok (.iinc 1 1, 3) := by decide +kernel
theorem dX5_unfinished_50 : decode cX5_unfinished 50 = .ok (.goto (-48), 3) := by decide +kernel
theorem dX5_unfinished_53 : decode cX5_unfinished 53 = .ok (.iconst 0, 1) := by decide +kernel
theorem dX5_unfinished_54 : decode cX5_unfinished 54 = .ok (.ireturn, 1) := by decide +kernel
theorem dX5_nothing_0 : decode cX5_nothing 0 = .ok (.iconst 0, 1) := by decide +kernel
theorem dX5_nothing_1 : decode cX5_nothing 1 = .ok (.istore_n 1, 1) := by decide +kernel
theorem dX5_nothing_2 : decode cX5_nothing 2 = .ok (.iload_n 1, 1) := by decide +kernel
theorem dX5_nothing_3 : decode cX5_nothing 3 = .ok (.iconst 4, 1) := by decide +kernel
theorem dX5_nothing_4 : decode cX5_nothing 4 = .ok (.if_icmp .ge 16, 3) := by decide +kernel
theorem dX5_nothing_7 : decode cX5_nothing 7 = .ok (.aload_n 0, 1) := by decide +kernel
theorem dX5_nothing_8 : decode cX5_nothing 8 = .ok (.getfield 38, 3) := by decide +kernel
theorem dX5_nothing_11 : decode cX5_nothing 11 = .ok (.iload_n 1, 1) := by decide +kernel
theorem dX5_nothing_12 : decode cX5_nothing 12 = .ok (.iconst (-1), 1) := by decide +kernel
theorem dX5_nothing_13 : decode cX5_nothing 13 = .ok (.iastore, 1) := by decide +kernel
theorem dX5_nothing_14 : decode cX5_nothing 14 = .ok (.iinc 1 1, 3) := by decide +kernel
theorem dX5_nothing_17 : decode cX5_nothing 17 = .ok (.goto (-15), 3) := by decide +kernel
theorem dX5_nothing_20 : decode cX5_nothing 20 = .ok (.aload_n 0, 1) := by decide +kernel
theorem dX5_nothing_21 : decode cX5_nothing 21 = .ok (.iconst 0, 1) := by decide +kernel
theorem dX5_nothing_22 : decode cX5_nothing 22 = .ok (.putfield 87, 3) := by decide +kernel
theorem dX5_nothing_25 : decode cX5_nothing 25 = .ok (.return_, 1) := by decide +kernel
theorem dX5_same_0 : decode cX5_same 0 = .ok (.iconst 0, 1) := by decide +kernel
theorem dX5_same_1 : decode cX5_same 1 = .ok (.istore_n 3, 1) := by decide +kernel
theorem dX5_same_2 : decode cX5_same 2 = .ok (.iload_n 3, 1) := by decide +kernel
theorem dX5_same_3 : decode cX5_same 3 = .ok (.iconst 4, 1) := by decide +kernel
theorem dX5_same_4 : decode cX5_same 4 = .ok (.if_icmp .ge 25, 3) := by decide +kernel
theorem dX5_same_7 : decode cX5_same 7 = .ok (.aload_n 0, 1) := by decide +kernel
theorem dX5_same_8 : decode cX5_same 8 = .ok (.getfield 38, 3) := by decide +kernel
theorem dX5_same_11 : decode cX5_same 11 = .ok (.iload_n 3, 1) := by decide +kernel
theorem dX5_same_12 : decode cX5_same 12 = .ok (.iaload, 1) := by decide +kernel
theorem dX5_same_13 : decode cX5_same 13 = .ok (.aload_n 1, 1) := by decide +kernel
theorem dX5_same_14 : decode cX5_same 14 = .ok (.iload_n 2, 1) := by decide +kernel
theorem dX5_same_15 : decode cX5_same 15 = .ok (.iload_n 3, 1) := by decide +kernel
theorem dX5_same_16 : decode cX5_same 16 = .ok (.iadd, 1) := by decide +kernel
theorem dX5_same_17 : decode cX5_same 17 = .ok (.iaload, 1) := by decide +kernel
theorem dX5_same_18 : decode cX5_same 18 = .ok (.if_icmp .eq 5, 3) := by decide +kernel
theorem dX5_same_21 : decode cX5_same 21 = .ok (.iconst 0, 1) := by decide +kernel
theorem dX5_same_22 : decode cX5_same 22 = .ok (.ireturn, 1) := by decide +kernel
theorem dX5_same_23 : decode cX5_same 23 = .ok (.iinc 3 1, 3) := by decide +kernel
theorem dX5_same_26 : decode cX5_same 26 = .ok (.goto (-24), 3) := by decide +kernel
theorem dX5_same_29 : decode cX5_same 29 = .ok (.iconst 1, 1) := by decide +kernel
theorem dX5_same_30 : decode cX5_same 30 = .ok (.ireturn, 1) := by decide +kernel
theorem dX5_blockEnd_0 : decode cX5_blockEnd 0 = .ok (.aload_n 0, 1) := by decide +kernel
theorem dX5_blockEnd_1 : decode cX5_blockEnd 1 = .ok (.getfield 47, 3) := by decide +kernel
theorem dX5_blockEnd_4 : decode cX5_blockEnd 4 = .ok (.aload_n 0, 1) := by decide +kernel
theorem dX5_blockEnd_5 : decode cX5_blockEnd 5 = .ok (.getfield 87, 3) := by decide +kernel
theorem dX5_blockEnd_8 : decode cX5_blockEnd 8 = .ok (.iconst 1, 1) := by decide +kernel
theorem dX5_blockEnd_9 : decode cX5_blockEnd 9 = .ok (.isub, 1) := by decide +kernel
theorem dX5_blockEnd_10 : decode cX5_blockEnd 10 = .ok (.iaload, 1) := by decide +kernel
theorem dX5_blockEnd_11 : decode cX5_blockEnd 11 = .ok (.istore_n 1, 1) := by decide +kernel
theorem dX5_blockEnd_12 : decode cX5_blockEnd 12 = .ok (.aload_n 0, 1) := by decide +kernel
theorem dX5_blockEnd_13 : decode cX5_blockEnd 13 = .ok (.getfield 17, 3) := by decide +kernel
theorem dX5_blockEnd_16 : decode cX5_blockEnd 16 = .ok (.iload_n 1, 1) := by decide +kernel
theorem dX5_blockEnd_17 : decode cX5_blockEnd 17 = .ok (.iaload, 1) := by decide +kernel
theorem dX5_blockEnd_18 : decode cX5_blockEnd 18 = .ok (.iconst 4, 1) := by decide +kernel
theorem dX5_blockEnd_19 : decode cX5_blockEnd 19 = .ok (.if_icmp .ne 26, 3) := by decide +kernel
theorem dX5_blockEnd_22 : decode cX5_blockEnd 22 = .ok (.aload_n 0, 1) := by decide +kernel
theorem dX5_blockEnd_23 : decode cX5_blockEnd 23 = .ok (.getfield 50, 3) := by decide +kernel
theorem dX5_blockEnd_26 : decode cX5_blockEnd 26 = .ok (.aload_n 0, 1) := by decide +kernel
theorem dX5_blockEnd_27 : decode cX5_blockEnd 27 = .ok (.getfield 87, 3) := by decide +kernel
theorem dX5_blockEnd_30 : decode cX5_blockEnd 30 = .ok (.iconst 1, 1) := by decide +kernel
theorem dX5_blockEnd_31 : decode cX5_blockEnd 31 = .ok (.isub, 1) := by decide +kernel
theorem dX5_blockEnd_32 : decode cX5_blockEnd 32 = .ok (.baload, 1) := by decide +kernel
theorem dX5_blockEnd_33 : decode cX5_blockEnd 33 = .ok (.ifCond .ne 12, 3) := by decide +kernel
theorem dX5_blockEnd_36 : decode cX5_blockEnd 36 = .ok (.aload_n 0, 1) := by decide +kernel
theorem dX5_blockEnd_37 : decode cX5_blockEnd 37 = .ok (.getfield 26, 3) := by decide +kernel
theorem dX5_blockEnd_40 : decode cX5_blockEnd 40 = .ok (.iload_n 1, 1) := by decide +kernel
theorem dX5_blockEnd_41 : decode cX5_blockEnd 41 = .ok (.iaload, 1) := by decide +kernel
theorem dX5_blockEnd_42 : decode cX5_blockEnd 42 = .ok (.goto 9, 3) := by decide +kernel
theorem dX5_blockEnd_45 : decode cX5_blockEnd 45 = .ok (.aload_n 0, 1) := by decide +kernel
theorem dX5_blockEnd_46 : decode cX5_blockEnd 46 = .ok (.getfield 29, 3) := by decide +kernel
theorem dX5_blockEnd_49 : decode cX5_blockEnd 49 = .ok (.iload_n 1, 1) := by decide +kernel
theorem dX5_blockEnd_50 : decode cX5_blockEnd 50 = .ok (.iaload, 1) := by decide +kernel
theorem dX5_blockEnd_51 : decode cX5_blockEnd 51 = .ok (.ireturn, 1) := by decide +kernel
set_option maxRecDepth 20000 in
theorem ggX5_ended_X5_same : GoodIn wsX5_ended wsX5_same := goodIn_r _ [13, 6, 14, 15, 16, 17, 18, 19, 20, 21, 22, 23, 24, 25, 26, 27, 28, 29, 30, 31, 32, 33, 34, 35, 36, 37, 38] (by decide +kernel) (by decide +kernel)
set_option maxRecDepth 20000 in
theorem gX5_ended_X5_same : GoodIn wsX5_ended (wsV RX5 90 RX5 yX5_same wsX5_same) := goodIn_app (goodIn_of _ (by decide +kernel)) ggX5_ended_X5_same
theorem dX5_ended_0 : decode cX5_ended 0 = .ok (.aload_n 0, 1) := by decide +kernel
theorem dX5_ended_1 : decode cX5_ended 1 = .ok (.getfield 87, 3) := by decide +kernel
theorem dX5_ended_4 : decode cX5_ended 4 = .ok (.iconst 1, 1) := by decide +kernel
theorem dX5_ended_5 : decode cX5_ended 5 = .ok (.isub, 1) := by decide +kernel
theorem dX5_ended_6 : decode cX5_ended 6 = .ok (.istore_n 1, 1) := by decide +kernel
theorem dX5_ended_7 : decode cX5_ended 7 = .ok (.aload_n 0, 1) := by decide +kernel
theorem dX5_ended_8 : decode cX5_ended 8 = .ok (.getfield 47, 3) := by decide +kernel
theorem dX5_ended_11 : decode cX5_ended 11 = .ok (.iload_n 1, 1) := by decide +kernel
theorem dX5_ended_12 : decode cX5_ended 12 = .ok (.iaload, 1) := by decide +kernel
theorem dX5_ended_13 : decode cX5_ended 13 = .ok (.istore_n 2, 1) := by decide +kernel
theorem dX5_ended_14 : decode cX5_ended 14 = .ok (.aload_n 0, 1) := by decide +kernel
theorem dX5_ended_15 : decode cX5_ended 15 = .ok (.getfield 17, 3) := by decide +kernel
theorem dX5_ended_18 : decode cX5_ended 18 = .ok (.iload_n 2, 1) := by decide +kernel
theorem dX5_ended_19 : decode cX5_ended 19 = .ok (.iaload, 1) := by decide +kernel
theorem dX5_ended_20 : decode cX5_ended 20 = .ok (.iconst 4, 1) := by decide +kernel
theorem dX5_ended_21 : decode cX5_ended 21 = .ok (.if_icmp .ne 66, 3) := by decide +kernel
theorem dX5_ended_24 : decode cX5_ended 24 = .ok (.aload_n 0, 1) := by decide +kernel
theorem dX5_ended_25 : decode cX5_ended 25 = .ok (.getfield 50, 3) := by decide +kernel
theorem dX5_ended_28 : decode cX5_ended 28 = .ok (.iload_n 1, 1) := by decide +kernel
theorem dX5_ended_29 : decode cX5_ended 29 = .ok (.baload, 1) := by decide +kernel
theorem dX5_ended_30 : decode cX5_ended 30 = .ok (.ifCond .ne 57, 3) := by decide +kernel
theorem dX5_ended_33 : decode cX5_ended 33 = .ok (.aload_n 0, 1) := by decide +kernel
theorem dX5_ended_34 : decode cX5_ended 34 = .ok (.getfield 50, 3) := by decide +kernel
theorem dX5_ended_37 : decode cX5_ended 37 = .ok (.iload_n 1, 1) := by decide +kernel
theorem dX5_ended_38 : decode cX5_ended 38 = .ok (.iconst 1, 1) := by decide +kernel
theorem dX5_ended_39 : decode cX5_ended 39 = .ok (.bastore, 1) := by decide +kernel
theorem dX5_ended_40 : decode cX5_ended 40 = .ok (.iconst 0, 1) := by decide +kernel
theorem dX5_ended_41 : decode cX5_ended 41 = .ok (.istore_n 3, 1) := by decide +kernel
theorem dX5_ended_42 : decode cX5_ended 42 = .ok (.iload_n 3, 1) := by decide +kernel
theorem dX5_ended_43 : decode cX5_ended 43 = .ok (.iconst 4, 1) := by decide +kernel
theorem dX5_ended_44 : decode cX5_ended 44 = .ok (.if_icmp .ge 41, 3) := by decide +kernel
theorem dX5_ended_47 : decode cX5_ended 47 = .ok (.aload_n 0, 1) := by decide +kernel
theorem dX5_ended_48 : decode cX5_ended 48 = .ok (.getfield 56, 3) := by decide +kernel
theorem dX5_ended_51 : decode cX5_ended 51 = .ok (.iconst 4, 1) := by decide +kernel
theorem dX5_ended_52 : decode cX5_ended 52 = .ok (.iload_n 1, 1) := by decide +kernel
theorem dX5_ended_53 : decode cX5_ended 53 = .ok (.imul, 1) := by decide +kernel
theorem dX5_ended_54 : decode cX5_ended 54 = .ok (.iload_n 3, 1) := by decide +kernel
theorem dX5_ended_55 : decode cX5_ended 55 = .ok (.iadd, 1) := by decide +kernel
theorem dX5_ended_56 : decode cX5_ended 56 = .ok (.aload_n 0, 1) := by decide +kernel
theorem dX5_ended_57 : decode cX5_ended 57 = .ok (.getfield 38, 3) := by decide +kernel
theorem dX5_ended_60 : decode cX5_ended 60 = .ok (.iload_n 3, 1) := by decide +kernel
theorem dX5_ended_61 : decode cX5_ended 61 = .ok (.iaload, 1) := by decide +kernel
theorem dX5_ended_62 : decode cX5_ended 62 = .ok (.iastore, 1) := by decide +kernel
theorem dX5_ended_63 : decode cX5_ended 63 = .ok (.aload_n 0, 1) := by decide +kernel
theorem dX5_ended_64 : decode cX5_ended 64 = .ok (.getfield 38, 3) := by decide +kernel
theorem dX5_ended_67 : decode cX5_ended 67 = .ok (.iload_n 3, 1) := by decide +kernel
theorem dX5_ended_68 : decode cX5_ended 68 = .ok (.aload_n 0, 1) := by decide +kernel
theorem dX5_ended_69 : decode cX5_ended 69 = .ok (.getfield 53, 3) := by decide +kernel
theorem dX5_ended_72 : decode cX5_ended 72 = .ok (.iconst 4, 1) := by decide +kernel
theorem dX5_ended_73 : decode cX5_ended 73 = .ok (.iload_n 1, 1) := by decide +kernel
theorem dX5_ended_74 : decode cX5_ended 74 = .ok (.imul, 1) := by decide +kernel
theorem dX5_ended_75 : decode cX5_ended 75 = .ok (.iload_n 3, 1) := by decide +kernel
theorem dX5_ended_76 : decode cX5_ended 76 = .ok (.iadd, 1) := by decide +kernel
theorem dX5_ended_77 : decode cX5_ended 77 = .ok (.iaload, 1) := by decide +kernel
theorem dX5_ended_78 : decode cX5_ended 78 = .ok (.iastore, 1) := by decide +kernel
theorem dX5_ended_79 : decode cX5_ended 79 = .ok (.iinc 3 1, 3) := by decide +kernel
theorem dX5_ended_82 : decode cX5_ended 82 = .ok (.goto (-40), 3) := by decide +kernel
theorem dX5_ended_85 : decode cX5_ended 85 = .ok (.iconst 0, 1) := by decide +kernel
theorem dX5_ended_86 : decode cX5_ended 86 = .ok (.ireturn, 1) := by decide +kernel
theorem dX5_ended_87 : decode cX5_ended 87 = .ok (.aload_n 0, 1) := by decide +kernel
theorem dX5_ended_88 : decode cX5_ended 88 = .ok (.iload_n 1, 1) := by decide +kernel
theorem dX5_ended_89 : decode cX5_ended 89 = .ok (.putfield 87, 3) := by decide +kernel
theorem dX5_ended_92 : decode cX5_ended 92 = .ok (.aload_n 0, 1) := by decide +kernel
theorem dX5_ended_93 : decode cX5_ended 93 = .ok (.iload_n 2, 1) := by decide +kernel
theorem dX5_ended_94 : decode cX5_ended 94 = .ok (.putfield 59, 3) := by decide +kernel
theorem dX5_ended_97 : decode cX5_ended 97 = .ok (.aload_n 0, 1) := by decide +kernel
theorem dX5_ended_98 : decode cX5_ended 98 = .ok (.getfield 17, 3) := by decide +kernel
theorem dX5_ended_101 : decode cX5_ended 101 = .ok (.iload_n 2, 1) := by decide +kernel
theorem dX5_ended_102 : decode cX5_ended 102 = .ok (.iaload, 1) := by decide +kernel
theorem dX5_ended_103 : decode cX5_ended 103 = .ok (.iconst 4, 1) := by decide +kernel
theorem dX5_ended_104 : decode cX5_ended 104 = .ok (.if_icmp .ne 23, 3) := by decide +kernel
theorem dX5_ended_107 : decode cX5_ended 107 = .ok (.aload_n 0, 1) := by decide +kernel
theorem dX5_ended_108 : decode cX5_ended 108 = .ok (.aload_n 0, 1) := by decide +kernel
theorem dX5_ended_109 : decode cX5_ended 109 = .ok (.getfield 56, 3) := by decide +kernel
theorem dX5_ended_112 : decode cX5_ended 112 = .ok (.iconst 4, 1) := by decide +kernel
theorem dX5_ended_113 : decode cX5_ended 113 = .ok (.iload_n 1, 1) := by decide +kernel
theorem dX5_ended_114 : decode cX5_ended 114 = .ok (.imul, 1) := by decide +kernel
theorem dX5_ended_115 : decode cX5_ended 115 = .ok (.invokevirtual 90, 3) := by decide +kernel
theorem dX5_ended_118 : decode cX5_ended 118 = .ok (.ifCond .eq 7, 3) := by decide +kernel
theorem dX5_ended_121 : decode cX5_ended 121 = .ok (.iconst 0, 1) := by decide +kernel
theorem dX5_ended_122 : decode cX5_ended 122 = .ok (.goto 4, 3) := by decide +kernel
theorem dX5_ended_125 : decode cX5_ended 125 = .ok (.iconst 5, 1) := by decide +kernel
theorem dX5_ended_126 : decode cX5_ended 126 = .ok (.ireturn, 1) := by decide +kernel
theorem dX5_ended_127 : decode cX5_ended 127 = .ok (.aload_n 0, 1) := by decide +kernel
theorem dX5_ended_128 : decode cX5_ended 128 = .ok (.aload_n 0, 1) := by decide +kernel
theorem dX5_ended_129 : decode cX5_ended 129 = .ok (.getfield 53, 3) := by decide +kernel
theorem dX5_ended_132 : decode cX5_ended 132 = .ok (.iconst 4, 1) := by decide +kernel
theorem dX5_ended_133 : decode cX5_ended 133 = .ok (.iload_n 1, 1) := by decide +kernel
theorem dX5_ended_134 : decode cX5_ended 134 = .ok (.imul, 1) := by decide +kernel
theorem dX5_ended_135 : decode cX5_ended 135 = .ok (.invokevirtual 90, 3) := by decide +kernel
theorem dX5_ended_138 : decode cX5_ended 138 = .ok (.ifCond .eq 7, 3) := by decide +kernel
theorem dX5_ended_141 : decode cX5_ended 141 = .ok (.iconst 0, 1) := by decide +kernel
theorem dX5_ended_142 : decode cX5_ended 142 = .ok (.goto 5, 3) := by decide +kernel
theorem dX5_ended_145 : decode cX5_ended 145 = .ok (.bipush 6, 2) := by decide +kernel
theorem dX5_ended_147 : decode cX5_ended 147 = .ok (.ireturn, 1) := by decide +kernel
set_option maxRecDepth 20000 in
theorem ggX5_check_X5_nothing : GoodIn wsX5_check wsX5_nothing := goodIn_r _ [17, 8, 7, 45, 46, 47, 48, 49, 50, 51, 52, 53, 54, 55, 56, 57, 58, 59, 60, 61, 62, 63, 64, 65, 66, 67, 68, 69] (by decide +kernel) (by decide +kernel)
set_option maxRecDepth 20000 in
theorem gX5_check_X5_nothing : GoodIn wsX5_check (wsV RX5 98 RX5 yX5_nothing wsX5_nothing) := goodIn_app (goodIn_of _ (by decide +kernel)) ggX5_check_X5_nothing
set_option maxRecDepth 20000 in
theorem ggX5_check_X5_blockEnd : GoodIn wsX5_check wsX5_blockEnd := goodIn_r _ [21, 11, 7, 9, 12, 22, 23, 45, 46, 47, 48, 49, 50, 51, 52, 53, 54, 55, 56, 57, 58, 59, 60, 61, 62, 63, 64, 65, 66, 67, 68, 69] (by decide +kernel) (by decide +kernel)
set_option maxRecDepth 20000 in
theorem gX5_check_X5_blockEnd : GoodIn wsX5_check (wsV RX5 101 RX5 yX5_blockEnd wsX5_blockEnd) := goodIn_app (goodIn_of _ (by decide +kernel)) ggX5_check_X5_blockEnd
set_option maxRecDepth 20000 in
theorem ggX5_check_X5_ended : GoodIn wsX5_check wsX5_ended := goodIn_r _ [27, 7, 11, 9, 12, 28, 8, 10, 5, 29, 30, 31, 16, 32, 45, 46, 47, 48, 49, 50, 51, 52, 53, 54, 55, 56, 57, 58, 59, 60, 61, 62, 63, 64, 65, 66, 67, 68, 69] (by decide +kernel) (by decide +kernel)
set_option maxRecDepth 20000 in
theorem gX5_check_X5_ended : GoodIn wsX5_check (wsV RX5 105 RX5 yX5_ended wsX5_ended) := goodIn_app (goodIn_of _ (by decide +kernel)) ggX5_check_X5_ended
set_option maxRecDepth 20000 in
theorem ggX5_check_X5_work : GoodIn wsX5_check wsX5_work := goodIn_r _ [36, 37, 38, 8, 9, 39, 40, 45, 46, 47, 48, 49, 50, 51, 52, 53, 54, 55, 56, 57, 58, 59, 60, 61, 62, 63, 64, 65, 66, 67, 68, 69] (by decide +kernel) (by decide +kernel)
set_option maxRecDepth 20000 in
theorem gX5_check_X5_work : GoodIn wsX5_check (wsV RX5 108 RX5 yX5_work wsX5_work) := goodIn_app (goodIn_of _ (by decide +kernel)) ggX5_check_X5_work
set_option maxRecDepth 20000 in
theorem ggX5_check_X5_unfinished : GoodIn wsX5_check wsX5_unfinished := goodIn_r _ [44, 8, 40, 45, 46, 47, 48, 49, 50, 51, 52, 53, 54, 55, 56, 57, 58, 59, 60, 61, 62, 63, 64, 65, 66, 67, 68, 69] (by decide +kernel) (by decide +kernel)
set_option maxRecDepth 20000 in
theorem gX5_check_X5_unfinished : GoodIn wsX5_check (wsV RX5 111 RX5 yX5_unfinished wsX5_unfinished) := goodIn_app (goodIn_of _ (by decide +kernel)) ggX5_check_X5_unfinished
theorem dX5_check_0 : decode cX5_check 0 = .ok (.aload_n 0, 1) := by decide +kernel
theorem dX5_check_1 : decode cX5_check 1 = .ok (.iconst 0, 1) := by decide +kernel
theorem dX5_check_2 : decode cX5_check 2 = .ok (.putfield 66, 3) := by decide +kernel
theorem dX5_check_5 : decode cX5_check 5 = .ok (.aload_n 0, 1) := by decide +kernel
theorem dX5_check_6 : decode cX5_check 6 = .ok (.iconst 1, 1) := by decide +kernel
theorem dX5_check_7 : decode cX5_check 7 = .ok (.putfield 94, 3) := by decide +kernel
theorem dX5_check_10 : decode cX5_check 10 = .ok (.iconst 0, 1) := by decide +kernel
theorem dX5_check_11 : decode cX5_check 11 = .ok (.istore_n 1, 1) := by decide +kernel
theorem dX5_check_12 : decode cX5_check 12 = .ok (.iload_n 1, 1) := by decide +kernel
theorem dX5_check_13 : decode cX5_check 13 = .ok (.sipush 160, 3) := by decide +kernel
theorem dX5_check_16 : decode cX5_check 16 = .ok (.if_icmp .ge 17, 3) := by decide +kernel
theorem dX5_check_19 : decode cX5_check 19 = .ok (.aload_n 0, 1) := by decide +kernel
theorem dX5_check_20 : decode cX5_check 20 = .ok (.getfield 44, 3) := by decide +kernel
theorem dX5_check_23 : decode cX5_check 23 = .ok (.iload_n 1, 1) := by decide +kernel
theorem dX5_check_24 : decode cX5_check 24 = .ok (.bipush (-2), 2) := by decide +kernel
theorem dX5_check_26 : decode cX5_check 26 = .ok (.iastore, 1) := by decide +kernel
theorem dX5_check_27 : decode cX5_check 27 = .ok (.iinc 1 1, 3) := by decide +kernel
theorem dX5_check_30 : decode cX5_check 30 = .ok (.goto (-18), 3) := by decide +kernel
theorem dX5_check_33 : decode cX5_check 33 = .ok (.aload_n 0, 1) := by decide +kernel
theorem dX5_check_34 : decode cX5_check 34 = .ok (.aload_n 0, 1) := by decide +kernel
theorem dX5_check_35 : decode cX5_check 35 = .ok (.getfield 73, 3) := by decide +kernel
theorem dX5_check_38 : decode cX5_check 38 = .ok (.putfield 59, 3) := by decide +kernel
theorem dX5_check_41 : decode cX5_check 41 = .ok (.aload_n 0, 1) := by decide +kernel
theorem dX5_check_42 : decode cX5_check 42 = .ok (.getfield 80, 3) := by decide +kernel
theorem dX5_check_45 : decode cX5_check 45 = .ok (.ifCond .le 6, 3) := by decide +kernel
theorem dX5_check_48 : decode cX5_check 48 = .ok (.bipush 8, 2) := by decide +kernel
theorem dX5_check_50 : decode cX5_check 50 = .ok (.ireturn, 1) := by decide +kernel
theorem dX5_check_51 : decode cX5_check 51 = .ok (.aload_n 0, 1) := by decide +kernel
theorem dX5_check_52 : decode cX5_check 52 = .ok (.invokevirtual 98, 3) := by decide +kernel
theorem dX5_check_55 : decode cX5_check 55 = .ok (.iconst 0, 1) := by decide +kernel
theorem dX5_check_56 : decode cX5_check 56 = .ok (.istore_n 1, 1) := by decide +kernel
theorem dX5_check_57 : decode cX5_check 57 = .ok (.iconst 0, 1) := by decide +kernel
theorem dX5_check_58 : decode cX5_check 58 = .ok (.istore_n 2, 1) := by decide +kernel
theorem dX5_check_59 : decode cX5_check 59 = .ok (.iconst 0, 1) := by decide +kernel
theorem dX5_check_60 : decode cX5_check 60 = .ok (.istore_n 3, 1) := by decide +kernel
theorem dX5_check_61 : decode cX5_check 61 = .ok (.iload_n 3, 1) := by decide +kernel
theorem dX5_check_62 : decode cX5_check 62 = .ok (.sipush 200, 3) := by decide +kernel
theorem dX5_check_65 : decode cX5_check 65 = .ok (.if_icmp .ge 178, 3) := by decide +kernel
theorem dX5_check_68 : decode cX5_check 68 = .ok (.iload_n 2, 1) := by decide +kernel
theorem dX5_check_69 : decode cX5_check 69 = .ok (.ifCond .ne 174, 3) := by decide +kernel
theorem dX5_check_72 : decode cX5_check 72 = .ok (.iload_n 1, 1) := by decide +kernel
theorem dX5_check_73 : decode cX5_check 73 = .ok (.aload_n 0, 1) := by decide +kernel
theorem dX5_check_74 : decode cX5_check 74 = .ok (.getfield 73, 3) := by decide +kernel
theorem dX5_check_77 : decode cX5_check 77 = .ok (.if_icmp .lt 10, 3) := by decide +kernel
theorem dX5_check_80 : decode cX5_check 80 = .ok (.aload_n 0, 1) := by decide +kernel
theorem dX5_check_81 : decode cX5_check 81 = .ok (.getfield 87, 3) := by decide +kernel
theorem dX5_check_84 : decode cX5_check 84 = .ok (.ifCond .le 159, 3) := by decide +kernel
theorem dX5_check_87 : decode cX5_check 87 = .ok (.aload_n 0, 1) := by decide +kernel
theorem dX5_check_88 : decode cX5_check 88 = .ok (.getfield 87, 3) := by decide +kernel
theorem dX5_check_91 : decode cX5_check 91 = .ok (.ifCond .le 19, 3) := by decide +kernel
theorem dX5_check_94 : decode cX5_check 94 = .ok (.iload_n 1, 1) := by decide +kernel
theorem dX5_check_95 : decode cX5_check 95 = .ok (.aload_n 0, 1) := by decide +kernel
theorem dX5_check_96 : decode cX5_check 96 = .ok (.invokevirtual 101, 3) := by decide +kernel
theorem dX5_check_99 : decode cX5_check 99 = .ok (.if_icmp .ne 11, 3) := by decide +kernel
theorem dX5_check_102 : decode cX5_check 102 = .ok (.aload_n 0, 1) := by decide +kernel
theorem dX5_check_103 : decode cX5_check 103 = .ok (.invokevirtual 105, 3) := by decide +kernel
theorem dX5_check_106 : decode cX5_check 106 = .ok (.istore_n 2, 1) := by decide +kernel
theorem dX5_check_107 : decode cX5_check 107 = .ok (.goto 130, 3) := by decide +kernel
theorem dX5_check_110 : decode cX5_check 110 = .ok (.iconst 0, 1) := by decide +kernel
theorem dX5_check_111 : decode cX5_check 111 = .ok (.istore 4, 2) := by decide +kernel
theorem dX5_check_113 : decode cX5_check 113 = .ok (.iload 4, 2) := by decide +kernel
theorem dX5_check_115 : decode cX5_check 115 = .ok (.iconst 4, 1) := by decide +kernel
theorem dX5_check_116 : decode cX5_check 116 = .ok (.if_icmp .ge 27, 3) := by decide +kernel
theorem dX5_check_119 : decode cX5_check 119 = .ok (.aload_n 0, 1) := by decide +kernel
theorem dX5_check_120 : decode cX5_check 120 = .ok (.getfield 44, 3) := by decide +kernel
theorem dX5_check_123 : decode cX5_check 123 = .ok (.iconst 4, 1) := by decide +kernel
theorem dX5_check_124 : decode cX5_check 124 = .ok (.iload_n 1, 1) := by decide +kernel
theorem dX5_check_125 : decode cX5_check 125 = .ok (.imul, 1) := by decide +kernel
theorem dX5_check_126 : decode cX5_check 126 = .ok (.iload 4, 2) := by decide +kernel
theorem dX5_check_128 : decode cX5_check 128 = .ok (.iadd, 1) := by decide +kernel
theorem dX5_check_129 : decode cX5_check 129 = .ok (.aload_n 0, 1) := by decide +kernel
theorem dX5_check_130 : decode cX5_check 130 = .ok (.getfield 38, 3) := by decide +kernel
theorem dX5_check_133 : decode cX5_check 133 = .ok (.iload 4, 2) := by decide +kernel
theorem dX5_check_135 : decode cX5_check 135 = .ok (.iaload, 1) := by decide +kernel
theorem dX5_check_136 : decode cX5_check 136 = .ok (.iastore, 1) := by decide +kernel
theorem dX5_check_137 : decode cX5_check 137 = .ok (.iinc 4 1, 3) := by decide +kernel
theorem dX5_check_140 : decode cX5_check 140 = .ok (.goto (-27), 3) := by decide +kernel
theorem dX5_check_143 : decode cX5_check 143 = .ok (.aload_n 0, 1) := by decide +kernel
theorem dX5_check_144 : decode cX5_check 144 = .ok (.iload_n 1, 1) := by decide +kernel
theorem dX5_check_145 : decode cX5_check 145 = .ok (.putfield 59, 3) := by decide +kernel
theorem dX5_check_148 : decode cX5_check 148 = .ok (.aload_n 0, 1) := by decide +kernel
theorem dX5_check_149 : decode cX5_check 149 = .ok (.getfield 17, 3) := by decide +kernel
theorem dX5_check_152 : decode cX5_check 152 = .ok (.iload_n 1, 1) := by decide +kernel
theorem dX5_check_153 : decode cX5_check 153 = .ok (.iaload, 1) := by decide +kernel
theorem dX5_check_154 : decode cX5_check 154 = .ok (.iconst 4, 1) := by decide +kernel
theorem dX5_check_155 : decode cX5_check 155 = .ok (.if_icmp .lt 72, 3) := by decide +kernel
theorem dX5_check_158 : decode cX5_check 158 = .ok (.iconst 0, 1) := by decide +kernel
theorem dX5_check_159 : decode cX5_check 159 = .ok (.istore 4, 2) := by decide +kernel
theorem dX5_check_161 : decode cX5_check 161 = .ok (.iload 4, 2) := by decide +kernel
theorem dX5_check_163 : decode cX5_check 163 = .ok (.iconst 4, 1) := by decide +kernel
theorem dX5_check_164 : decode cX5_check 164 = .ok (.if_icmp .ge 30, 3) := by decide +kernel
theorem dX5_check_167 : decode cX5_check 167 = .ok (.aload_n 0, 1) := by decide +kernel
theorem dX5_check_168 : decode cX5_check 168 = .ok (.getfield 53, 3) := by decide +kernel
theorem dX5_check_171 : decode cX5_check 171 = .ok (.iconst 4, 1) := by decide +kernel
theorem dX5_check_172 : decode cX5_check 172 = .ok (.aload_n 0, 1) := by decide +kernel
theorem dX5_check_173 : decode cX5_check 173 = .ok (.getfield 87, 3) := by decide +kernel
theorem dX5_check_176 : decode cX5_check 176 = .ok (.imul, 1) := by decide +kernel
theorem dX5_check_177 : decode cX5_check 177 = .ok (.iload 4, 2) := by decide +kernel
theorem dX5_check_179 : decode cX5_check 179 = .ok (.iadd, 1) := by decide +kernel
theorem dX5_check_180 : decode cX5_check 180 = .ok (.aload_n 0, 1) := by decide +kernel
theorem dX5_check_181 : decode cX5_check 181 = .ok (.getfield 38, 3) := by decide +kernel
theorem dX5_check_184 : decode cX5_check 184 = .ok (.iload 4, 2) := by decide +kernel
theorem dX5_check_186 : decode cX5_check 186 = .ok (.iaload, 1) := by decide +kernel
theorem dX5_check_187 : decode cX5_check 187 = .ok (.iastore, 1) := by decide +kernel
theorem dX5_check_188 : decode cX5_check 188 = .ok (.iinc 4 1, 3) := by decide +kernel
theorem dX5_check_191 : decode cX5_check 191 = .ok (.goto (-30), 3) := by decide +kernel
theorem dX5_check_194 : decode cX5_check 194 = .ok (.aload_n 0, 1) := by decide +kernel
theorem dX5_check_195 : decode cX5_check 195 = .ok (.getfield 47, 3) := by decide +kernel
theorem dX5_check_198 : decode cX5_check 198 = .ok (.aload_n 0, 1) := by decide +kernel
theorem dX5_check_199 : decode cX5_check 199 = .ok (.getfield 87, 3) := by decide +kernel
theorem dX5_check_202 : decode cX5_check 202 = .ok (.iload_n 1, 1) := by decide +kernel
theorem dX5_check_203 : decode cX5_check 203 = .ok (.iastore, 1) := by decide +kernel
theorem dX5_check_204 : decode cX5_check 204 = .ok (.aload_n 0, 1) := by decide +kernel
theorem dX5_check_205 : decode cX5_check 205 = .ok (.getfield 50, 3) := by decide +kernel
theorem dX5_check_208 : decode cX5_check 208 = .ok (.aload_n 0, 1) := by decide +kernel
theorem dX5_check_209 : decode cX5_check 209 = .ok (.getfield 87, 3) := by decide +kernel
theorem dX5_check_212 : decode cX5_check 212 = .ok (.iconst 0, 1) := by decide +kernel
theorem dX5_check_213 : decode cX5_check 213 = .ok (.bastore, 1) := by decide +kernel
theorem dX5_check_214 : decode cX5_check 214 = .ok (.aload_n 0, 1) := by decide +kernel
theorem dX5_check_215 : decode cX5_check 215 = .ok (.aload_n 0, 1) := by decide +kernel
theorem dX5_check_216 : decode cX5_check 216 = .ok (.getfield 87, 3) := by decide +kernel
theorem dX5_check_219 : decode cX5_check 219 = .ok (.iconst 1, 1) := by decide +kernel
theorem dX5_check_220 : decode cX5_check 220 = .ok (.iadd, 1) := by decide +kernel
theorem dX5_check_221 : decode cX5_check 221 = .ok (.putfield 87, 3) := by decide +kernel
theorem dX5_check_224 : decode cX5_check 224 = .ok (.goto 9, 3) := by decide +kernel
theorem dX5_check_227 : decode cX5_check 227 = .ok (.aload_n 0, 1) := by decide +kernel
theorem dX5_check_228 : decode cX5_check 228 = .ok (.iload_n 1, 1) := by decide +kernel
theorem dX5_check_229 : decode cX5_check 229 = .ok (.invokevirtual 108, 3) := by decide +kernel
theorem dX5_check_232 : decode cX5_check 232 = .ok (.istore_n 2, 1) := by decide +kernel
theorem dX5_check_233 : decode cX5_check 233 = .ok (.iload_n 1, 1) := by decide +kernel
theorem dX5_check_234 : decode cX5_check 234 = .ok (.iconst 1, 1) := by decide +kernel
theorem dX5_check_235 : decode cX5_check 235 = .ok (.iadd, 1) := by decide +kernel
theorem dX5_check_236 : decode cX5_check 236 = .ok (.istore_n 1, 1) := by decide +kernel
theorem dX5_check_237 : decode cX5_check 237 = .ok (.iinc 3 1, 3) := by decide +kernel
theorem dX5_check_240 : decode cX5_check 240 = .ok (.goto (-179), 3) := by decide +kernel
theorem dX5_check_243 : decode cX5_check 243 = .ok (.iload_n 2, 1) := by decide +kernel
theorem dX5_check_244 : decode cX5_check 244 = .ok (.ifCond .ne 21, 3) := by decide +kernel
theorem dX5_check_247 : decode cX5_check 247 = .ok (.aload_n 0, 1) := by decide +kernel
theorem dX5_check_248 : decode cX5_check 248 = .ok (.invokevirtual 111, 3) := by decide +kernel
theorem dX5_check_251 : decode cX5_check 251 = .ok (.ifCond .eq 14, 3) := by decide +kernel
theorem dX5_check_254 : decode cX5_check 254 = .ok (.aload_n 0, 1) := by decide +kernel
theorem dX5_check_255 : decode cX5_check 255 = .ok (.aload_n 0, 1) := by decide +kernel
theorem dX5_check_256 : decode cX5_check 256 = .ok (.getfield 73, 3) := by decide +kernel
theorem dX5_check_259 : decode cX5_check 259 = .ok (.putfield 59, 3) := by decide +kernel
theorem dX5_check_262 : decode cX5_check 262 = .ok (.bipush 7, 2) := by decide +kernel
theorem dX5_check_264 : decode cX5_check 264 = .ok (.ireturn, 1) := by decide +kernel
theorem dX5_check_265 : decode cX5_check 265 = .ok (.iload_n 2, 1) := by decide +kernel
theorem dX5_check_266 : decode cX5_check 266 = .ok (.ifCond .ne 8, 3) := by decide +kernel
theorem dX5_check_269 : decode cX5_check 269 = .ok (.aload_n 0, 1) := by decide +kernel
theorem dX5_check_270 : decode cX5_check 270 = .ok (.iconst (-1), 1) := by decide +kernel
theorem dX5_check_271 : decode cX5_check 271 = .ok (.putfield 59, 3) := by decide +kernel
theorem dX5_check_274 : decode cX5_check 274 = .ok (.iload_n 2, 1) := by decide +kernel
theorem dX5_check_275 : decode cX5_check 275 = .ok (.ireturn, 1) := by decide +kernel
theorem dX5_faultAt_0 : decode cX5_faultAt 0 = .ok (.aload_n 0, 1) := by decide +kernel
theorem dX5_faultAt_1 : decode cX5_faultAt 1 = .ok (.iconst 0, 1) := by decide +kernel
theorem dX5_faultAt_2 : decode cX5_faultAt 2 = .ok (.putfield 66, 3) := by decide +kernel
theorem dX5_faultAt_5 : decode cX5_faultAt 5 = .ok (.aload_n 0, 1) := by decide +kernel
theorem dX5_faultAt_6 : decode cX5_faultAt 6 = .ok (.getfield 94, 3) := by decide +kernel
theorem dX5_faultAt_9 : decode cX5_faultAt 9 = .ok (.ifCond .eq 10, 3) := by decide +kernel
theorem dX5_faultAt_12 : decode cX5_faultAt 12 = .ok (.aload_n 0, 1) := by decide +kernel
theorem dX5_faultAt_13 : decode cX5_faultAt 13 = .ok (.getfield 59, 3) := by decide +kernel
theorem dX5_faultAt_16 : decode cX5_faultAt 16 = .ok (.goto 4, 3) := by decide +kernel
theorem dX5_faultAt_19 : decode cX5_faultAt 19 = .ok (.iconst (-1), 1) := by decide +kernel
theorem dX5_faultAt_20 : decode cX5_faultAt 20 = .ok (.ireturn, 1) := by decide +kernel
set_option maxRecDepth 20000 in
theorem ggX5_held_X5_within : GoodIn wsX5_held wsX5_within := goodIn_r _ [7] (by decide +kernel) (by decide +kernel)
set_option maxRecDepth 20000 in
theorem gX5_held_X5_within : GoodIn wsX5_held (va_wsS RX5 69 yX5_within wsX5_within) := goodIn_app (goodIn_of _ (by decide +kernel)) ggX5_held_X5_within
theorem dX5_held_0 : decode cX5_held 0 = .ok (.aload_n 0, 1) := by decide +kernel
theorem dX5_held_1 : decode cX5_held 1 = .ok (.iconst 0, 1) := by decide +kernel
theorem dX5_held_2 : decode cX5_held 2 = .ok (.putfield 66, 3) := by decide +kernel
theorem dX5_held_5 : decode cX5_held 5 = .ok (.aload_n 0, 1) := by decide +kernel
theorem dX5_held_6 : decode cX5_held 6 = .ok (.getfield 94, 3) := by decide +kernel
theorem dX5_held_9 : decode cX5_held 9 = .ok (.ifCond .eq 33, 3) := by decide +kernel
theorem dX5_held_12 : decode cX5_held 12 = .ok (.iload_n 1, 1) := by decide +kernel
theorem dX5_held_13 : decode cX5_held 13 = .ok (.bipush 39, 2) := by decide +kernel
theorem dX5_held_15 : decode cX5_held 15 = .ok (.invokestatic 69, 3) := by decide +kernel
theorem dX5_held_18 : decode cX5_held 18 = .ok (.ifCond .eq 24, 3) := by decide +kernel
theorem dX5_held_21 : decode cX5_held 21 = .ok (.iload_n 2, 1) := by decide +kernel
theorem dX5_held_22 : decode cX5_held 22 = .ok (.iconst 3, 1) := by decide +kernel
theorem dX5_held_23 : decode cX5_held 23 = .ok (.invokestatic 69, 3) := by decide +kernel
theorem dX5_held_26 : decode cX5_held 26 = .ok (.ifCond .eq 16, 3) := by decide +kernel
theorem dX5_held_29 : decode cX5_held 29 = .ok (.aload_n 0, 1) := by decide +kernel
theorem dX5_held_30 : decode cX5_held 30 = .ok (.getfield 44, 3) := by decide +kernel
theorem dX5_held_33 : decode cX5_held 33 = .ok (.iconst 4, 1) := by decide +kernel
theorem dX5_held_34 : decode cX5_held 34 = .ok (.iload_n 1, 1) := by decide +kernel
theorem dX5_held_35 : decode cX5_held 35 = .ok (.imul, 1) := by decide +kernel
theorem dX5_held_36 : decode cX5_held 36 = .ok (.iload_n 2, 1) := by decide +kernel
theorem dX5_held_37 : decode cX5_held 37 = .ok (.iadd, 1) := by decide +kernel
theorem dX5_held_38 : decode cX5_held 38 = .ok (.iaload, 1) := by decide +kernel
theorem dX5_held_39 : decode cX5_held 39 = .ok (.goto 5, 3) := by decide +kernel
theorem dX5_held_42 : decode cX5_held 42 = .ok (.bipush (-2), 2) := by decide +kernel
theorem dX5_held_44 : decode cX5_held 44 = .ok (.ireturn, 1) := by decide +kernel
set_option maxRecDepth 20000 in
theorem ggX5_run_X5_nothing : GoodIn wsX5_run wsX5_nothing := goodIn_r _ [19, 14, 7, 36, 37, 38, 39, 40, 41, 42, 43, 44, 45, 46, 47, 48, 49, 50, 51, 52, 53, 54, 55, 56, 57, 58, 59, 60] (by decide +kernel) (by decide +kernel)
set_option maxRecDepth 20000 in
theorem gX5_run_X5_nothing : GoodIn wsX5_run (wsV RX5 98 RX5 yX5_nothing wsX5_nothing) := goodIn_app (goodIn_of _ (by decide +kernel)) ggX5_run_X5_nothing
set_option maxRecDepth 20000 in
theorem ggX5_run_X5_blockEnd : GoodIn wsX5_run wsX5_blockEnd := goodIn_r _ [23, 8, 7, 9, 11, 12, 10, 36, 37, 38, 39, 40, 41, 42, 43, 44, 45, 46, 47, 48, 49, 50, 51, 52, 53, 54, 55, 56, 57, 58, 59, 60] (by decide +kernel) (by decide +kernel)
set_option maxRecDepth 20000 in
theorem gX5_run_X5_blockEnd : GoodIn wsX5_run (wsV RX5 101 RX5 yX5_blockEnd wsX5_blockEnd) := goodIn_app (goodIn_of _ (by decide +kernel)) ggX5_run_X5_blockEnd
set_option maxRecDepth 20000 in
theorem ggX5_run_X5_work : GoodIn wsX5_run wsX5_work := goodIn_r _ [27, 28, 29, 14, 9, 30, 31, 36, 37, 38, 39, 40, 41, 42, 43, 44, 45, 46, 47, 48, 49, 50, 51, 52, 53, 54, 55, 56, 57, 58, 59, 60] (by decide +kernel) (by decide +kernel)
set_option maxRecDepth 20000 in
theorem gX5_run_X5_work : GoodIn wsX5_run (wsV RX5 108 RX5 yX5_work wsX5_work) := goodIn_app (goodIn_of _ (by decide +kernel)) ggX5_run_X5_work
set_option maxRecDepth 20000 in
theorem ggX5_run_X5_unfinished : GoodIn wsX5_run wsX5_unfinished := goodIn_r _ [35, 14, 31, 36, 37, 38, 39, 40, 41, 42, 43, 44, 45, 46, 47, 48, 49, 50, 51, 52, 53, 54, 55, 56, 57, 58, 59, 60] (by decide +kernel) (by decide +kernel)
set_option maxRecDepth 20000 in
theorem gX5_run_X5_unfinished : GoodIn wsX5_run (wsV RX5 111 RX5 yX5_unfinished wsX5_unfinished) := goodIn_app (goodIn_of _ (by decide +kernel)) ggX5_run_X5_unfinished
theorem dX5_run_0 : decode cX5_run 0 = .ok (.aload_n 0, 1) := by decide +kernel
theorem dX5_run_1 : decode cX5_run 1 = .ok (.iconst 1, 1) := by decide +kernel
theorem dX5_run_2 : decode cX5_run 2 = .ok (.putfield 66, 3) := by decide +kernel
theorem dX5_run_5 : decode cX5_run 5 = .ok (.iload_n 2, 1) := by decide +kernel
theorem dX5_run_6 : decode cX5_run 6 = .ok (.ifCond .lt 16, 3) := by decide +kernel
theorem dX5_run_9 : decode cX5_run 9 = .ok (.iload_n 2, 1) := by decide +kernel
theorem dX5_run_10 : decode cX5_run 10 = .ok (.bipush 32, 2) := by decide +kernel
theorem dX5_run_12 : decode cX5_run 12 = .ok (.if_icmp .gt 10, 3) := by decide +kernel
theorem dX5_run_15 : decode cX5_run 15 = .ok (.aload_n 0, 1) := by decide +kernel
theorem dX5_run_16 : decode cX5_run 16 = .ok (.getfield 80, 3) := by decide +kernel
theorem dX5_run_19 : decode cX5_run 19 = .ok (.ifCond .le 5, 3) := by decide +kernel
theorem dX5_run_22 : decode cX5_run 22 = .ok (.iconst 0, 1) := by decide +kernel
theorem dX5_run_23 : decode cX5_run 23 = .ok (.ireturn, 1) := by decide +kernel
theorem dX5_run_24 : decode cX5_run 24 = .ok (.aload_n 0, 1) := by decide +kernel
theorem dX5_run_25 : decode cX5_run 25 = .ok (.invokevirtual 98, 3) := by decide +kernel
theorem dX5_run_28 : decode cX5_run 28 = .ok (.aload_n 0, 1) := by decide +kernel
theorem dX5_run_29 : decode cX5_run 29 = .ok (.iconst 0, 1) := by decide +kernel
theorem dX5_run_30 : decode cX5_run 30 = .ok (.putfield 115, 3) := by decide +kernel
theorem dX5_run_33 : decode cX5_run 33 = .ok (.aload_n 0, 1) := by decide +kernel
theorem dX5_run_34 : decode cX5_run 34 = .ok (.iconst 0, 1) := by decide +kernel
theorem dX5_run_35 : decode cX5_run 35 = .ok (.putfield 118, 3) := by decide +kernel
theorem dX5_run_38 : decode cX5_run 38 = .ok (.aload_n 0, 1) := by decide +kernel
theorem dX5_run_39 : decode cX5_run 39 = .ok (.iconst (-1), 1) := by decide +kernel
theorem dX5_run_40 : decode cX5_run 40 = .ok (.putfield 63, 3) := by decide +kernel
theorem dX5_run_43 : decode cX5_run 43 = .ok (.iconst 0, 1) := by decide +kernel
theorem dX5_run_44 : decode cX5_run 44 = .ok (.istore_n 3, 1) := by decide +kernel
theorem dX5_run_45 : decode cX5_run 45 = .ok (.iconst 0, 1) := by decide +kernel
theorem dX5_run_46 : decode cX5_run 46 = .ok (.istore 4, 2) := by decide +kernel
theorem dX5_run_48 : decode cX5_run 48 = .ok (.iconst 0, 1) := by decide +kernel
theorem dX5_run_49 : decode cX5_run 49 = .ok (.istore 5, 2) := by decide +kernel
theorem dX5_run_51 : decode cX5_run 51 = .ok (.iload 5, 2) := by decide +kernel
theorem dX5_run_53 : decode cX5_run 53 = .ok (.sipush 5000, 3) := by decide +kernel
theorem dX5_run_56 : decode cX5_run 56 = .ok (.if_icmp .ge 277, 3) := by decide +kernel
theorem dX5_run_59 : decode cX5_run 59 = .ok (.aload_n 0, 1) := by decide +kernel
theorem dX5_run_60 : decode cX5_run 60 = .ok (.getfield 118, 3) := by decide +kernel
theorem dX5_run_63 : decode cX5_run 63 = .ok (.ifCond .ne 270, 3) := by decide +kernel
theorem dX5_run_66 : decode cX5_run 66 = .ok (.iload 4, 2) := by decide +kernel
theorem dX5_run_68 : decode cX5_run 68 = .ok (.aload_n 0, 1) := by decide +kernel
theorem dX5_run_69 : decode cX5_run 69 = .ok (.getfield 73, 3) := by decide +kernel
theorem dX5_run_72 : decode cX5_run 72 = .ok (.if_icmp .lt 10, 3) := by decide +kernel
theorem dX5_run_75 : decode cX5_run 75 = .ok (.aload_n 0, 1) := by decide +kernel
theorem dX5_run_76 : decode cX5_run 76 = .ok (.getfield 87, 3) := by decide +kernel
theorem dX5_run_79 : decode cX5_run 79 = .ok (.ifCond .le 254, 3) := by decide +kernel
theorem dX5_run_82 : decode cX5_run 82 = .ok (.iconst (-1), 1) := by decide +kernel
theorem dX5_run_83 : decode cX5_run 83 = .ok (.istore 6, 2) := by decide +kernel
theorem dX5_run_85 : decode cX5_run 85 = .ok (.aload_n 0, 1) := by decide +kernel
theorem dX5_run_86 : decode cX5_run 86 = .ok (.getfield 87, 3) := by decide +kernel
theorem dX5_run_89 : decode cX5_run 89 = .ok (.ifCond .le 63, 3) := by decide +kernel
theorem dX5_run_92 : decode cX5_run 92 = .ok (.iload 4, 2) := by decide +kernel
theorem dX5_run_94 : decode cX5_run 94 = .ok (.aload_n 0, 1) := by decide +kernel
theorem dX5_run_95 : decode cX5_run 95 = .ok (.invokevirtual 101, 3) := by decide +kernel
theorem dX5_run_98 : decode cX5_run 98 = .ok (.if_icmp .ne 54, 3) := by decide +kernel
theorem dX5_run_101 : decode cX5_run 101 = .ok (.aload_n 0, 1) := by decide +kernel
theorem dX5_run_102 : decode cX5_run 102 = .ok (.aload_n 0, 1) := by decide +kernel
theorem dX5_run_103 : decode cX5_run 103 = .ok (.getfield 87, 3) := by decide +kernel
theorem dX5_run_106 : decode cX5_run 106 = .ok (.iconst 1, 1) := by decide +kernel
theorem dX5_run_107 : decode cX5_run 107 = .ok (.isub, 1) := by decide +kernel
theorem dX5_run_108 : decode cX5_run 108 = .ok (.putfield 87, 3) := by decide +kernel
theorem dX5_run_111 : decode cX5_run 111 = .ok (.aload_n 0, 1) := by decide +kernel
theorem dX5_run_112 : decode cX5_run 112 = .ok (.getfield 47, 3) := by decide +kernel
theorem dX5_run_115 : decode cX5_run 115 = .ok (.aload_n 0, 1) := by decide +kernel
theorem dX5_run_116 : decode cX5_run 116 = .ok (.getfield 87, 3) := by decide +kernel
theorem dX5_run_119 : decode cX5_run 119 = .ok (.iaload, 1) := by decide +kernel
theorem dX5_run_120 : decode cX5_run 120 = .ok (.istore 7, 2) := by decide +kernel
theorem dX5_run_122 : decode cX5_run 122 = .ok (.aload_n 0, 1) := by decide +kernel
theorem dX5_run_123 : decode cX5_run 123 = .ok (.getfield 17, 3) := by decide +kernel
theorem dX5_run_126 : decode cX5_run 126 = .ok (.iload 7, 2) := by decide +kernel
theorem dX5_run_128 : decode cX5_run 128 = .ok (.iaload, 1) := by decide +kernel
theorem dX5_run_129 : decode cX5_run 129 = .ok (.iconst 4, 1) := by decide +kernel
theorem dX5_run_130 : decode cX5_run 130 = .ok (.if_icmp .ne 15, 3) := by decide +kernel
theorem dX5_run_133 : decode cX5_run 133 = .ok (.aload_n 0, 1) := by decide +kernel
theorem dX5_run_134 : decode cX5_run 134 = .ok (.getfield 29, 3) := by decide +kernel
theorem dX5_run_137 : decode cX5_run 137 = .ok (.iload 7, 2) := by decide +kernel
theorem dX5_run_139 : decode cX5_run 139 = .ok (.iaload, 1) := by decide +kernel
theorem dX5_run_140 : decode cX5_run 140 = .ok (.istore 4, 2) := by decide +kernel
theorem dX5_run_142 : decode cX5_run 142 = .ok (.goto 7, 3) := by decide +kernel
theorem dX5_run_145 : decode cX5_run 145 = .ok (.iload 7, 2) := by decide +kernel
theorem dX5_run_147 : decode cX5_run 147 = .ok (.istore 6, 2) := by decide +kernel
theorem dX5_run_149 : decode cX5_run 149 = .ok (.goto 63, 3) := by decide +kernel
theorem dX5_run_152 : decode cX5_run 152 = .ok (.aload_n 0, 1) := by decide +kernel
theorem dX5_run_153 : decode cX5_run 153 = .ok (.getfield 17, 3) := by decide +kernel
theorem dX5_run_156 : decode cX5_run 156 = .ok (.iload 4, 2) := by decide +kernel
theorem dX5_run_158 : decode cX5_run 158 = .ok (.iaload, 1) := by decide +kernel
theorem dX5_run_159 : decode cX5_run 159 = .ok (.iconst 4, 1) := by decide +kernel
theorem dX5_run_160 : decode cX5_run 160 = .ok (.if_icmp .lt 10, 3) := by decide +kernel
theorem dX5_run_163 : decode cX5_run 163 = .ok (.iload 4, 2) := by decide +kernel
theorem dX5_run_165 : decode cX5_run 165 = .ok (.istore 6, 2) := by decide +kernel
theorem dX5_run_167 : decode cX5_run 167 = .ok (.goto 45, 3) := by decide +kernel
theorem dX5_run_170 : decode cX5_run 170 = .ok (.aload_n 0, 1) := by decide +kernel
theorem dX5_run_171 : decode cX5_run 171 = .ok (.aload_n 0, 1) := by decide +kernel
theorem dX5_run_172 : decode cX5_run 172 = .ok (.iload 4, 2) := by decide +kernel
theorem dX5_run_174 : decode cX5_run 174 = .ok (.invokevirtual 108, 3) := by decide +kernel
theorem dX5_run_177 : decode cX5_run 177 = .ok (.putfield 118, 3) := by decide +kernel
theorem dX5_run_180 : decode cX5_run 180 = .ok (.aload_n 0, 1) := by decide +kernel
theorem dX5_run_181 : decode cX5_run 181 = .ok (.getfield 118, 3) := by decide +kernel
theorem dX5_run_184 : decode cX5_run 184 = .ok (.ifCond .ne 16, 3) := by decide +kernel
theorem dX5_run_187 : decode cX5_run 187 = .ok (.aload_n 0, 1) := by decide +kernel
theorem dX5_run_188 : decode cX5_run 188 = .ok (.aload_n 0, 1) := by decide +kernel
theorem dX5_run_189 : decode cX5_run 189 = .ok (.getfield 115, 3) := by decide +kernel
theorem dX5_run_192 : decode cX5_run 192 = .ok (.iconst 1, 1) := by decide +kernel
theorem dX5_run_193 : decode cX5_run 193 = .ok (.iadd, 1) := by decide +kernel
theorem dX5_run_194 : decode cX5_run 194 = .ok (.putfield 115, 3) := by decide +kernel
theorem dX5_run_197 : decode cX5_run 197 = .ok (.goto 9, 3) := by decide +kernel
theorem dX5_run_200 : decode cX5_run 200 = .ok (.aload_n 0, 1) := by decide +kernel
theorem dX5_run_201 : decode cX5_run 201 = .ok (.iload 4, 2) := by decide +kernel
theorem dX5_run_203 : decode cX5_run 203 = .ok (.putfield 63, 3) := by decide +kernel
theorem dX5_run_206 : decode cX5_run 206 = .ok (.iload 4, 2) := by decide +kernel
theorem dX5_run_208 : decode cX5_run 208 = .ok (.iconst 1, 1) := by decide +kernel
theorem dX5_run_209 : decode cX5_run 209 = .ok (.iadd, 1) := by decide +kernel
theorem dX5_run_210 : decode cX5_run 210 = .ok (.istore 4, 2) := by decide +kernel
theorem dX5_run_212 : decode cX5_run 212 = .ok (.iload 6, 2) := by decide +kernel
theorem dX5_run_214 : decode cX5_run 214 = .ok (.ifCond .lt 113, 3) := by decide +kernel
theorem dX5_run_217 : decode cX5_run 217 = .ok (.iload_n 3, 1) := by decide +kernel
theorem dX5_run_218 : decode cX5_run 218 = .ok (.iload_n 2, 1) := by decide +kernel
theorem dX5_run_219 : decode cX5_run 219 = .ok (.if_icmp .ge 16, 3) := by decide +kernel
theorem dX5_run_222 : decode cX5_run 222 = .ok (.iload_n 1, 1) := by decide +kernel
theorem dX5_run_223 : decode cX5_run 223 = .ok (.iload_n 3, 1) := by decide +kernel
theorem dX5_run_224 : decode cX5_run 224 = .ok (.ishr, 1) := by decide +kernel
theorem dX5_run_225 : decode cX5_run 225 = .ok (.iconst 1, 1) := by decide +kernel
theorem dX5_run_226 : decode cX5_run 226 = .ok (.iand, 1) := by decide +kernel
theorem dX5_run_227 : decode cX5_run 227 = .ok (.iconst 1, 1) := by decide +kernel
theorem dX5_run_228 : decode cX5_run 228 = .ok (.if_icmp .ne 7, 3) := by decide +kernel
theorem dX5_run_231 : decode cX5_run 231 = .ok (.iconst 1, 1) := by decide +kernel
theorem dX5_run_232 : decode cX5_run 232 = .ok (.goto 4, 3) := by decide +kernel
theorem dX5_run_235 : decode cX5_run 235 = .ok (.iconst 0, 1) := by decide +kernel
theorem dX5_run_236 : decode cX5_run 236 = .ok (.istore 7, 2) := by decide +kernel
theorem dX5_run_238 : decode cX5_run 238 = .ok (.iload_n 3, 1) := by decide +kernel
theorem dX5_run_239 : decode cX5_run 239 = .ok (.iconst 1, 1) := by decide +kernel
theorem dX5_run_240 : decode cX5_run 240 = .ok (.iadd, 1) := by decide +kernel
theorem dX5_run_241 : decode cX5_run 241 = .ok (.istore_n 3, 1) := by decide +kernel
theorem dX5_run_242 : decode cX5_run 242 = .ok (.aload_n 0, 1) := by decide +kernel
theorem dX5_run_243 : decode cX5_run 243 = .ok (.aload_n 0, 1) := by decide +kernel
theorem dX5_run_244 : decode cX5_run 244 = .ok (.getfield 115, 3) := by decide +kernel
theorem dX5_run_247 : decode cX5_run 247 = .ok (.iconst 1, 1) := by decide +kernel
theorem dX5_run_248 : decode cX5_run 248 = .ok (.iadd, 1) := by decide +kernel
theorem dX5_run_249 : decode cX5_run 249 = .ok (.putfield 115, 3) := by decide +kernel
theorem dX5_run_252 : decode cX5_run 252 = .ok (.iload 7, 2) := by decide +kernel
theorem dX5_run_254 : decode cX5_run 254 = .ok (.ifCond .eq 43, 3) := by decide +kernel
theorem dX5_run_257 : decode cX5_run 257 = .ok (.aload_n 0, 1) := by decide +kernel
theorem dX5_run_258 : decode cX5_run 258 = .ok (.getfield 47, 3) := by decide +kernel
theorem dX5_run_261 : decode cX5_run 261 = .ok (.aload_n 0, 1) := by decide +kernel
theorem dX5_run_262 : decode cX5_run 262 = .ok (.getfield 87, 3) := by decide +kernel
theorem dX5_run_265 : decode cX5_run 265 = .ok (.iload 6, 2) := by decide +kernel
theorem dX5_run_267 : decode cX5_run 267 = .ok (.iastore, 1) := by decide +kernel
theorem dX5_run_268 : decode cX5_run 268 = .ok (.aload_n 0, 1) := by decide +kernel
theorem dX5_run_269 : decode cX5_run 269 = .ok (.getfield 50, 3) := by decide +kernel
theorem dX5_run_272 : decode cX5_run 272 = .ok (.aload_n 0, 1) := by decide +kernel
theorem dX5_run_273 : decode cX5_run 273 = .ok (.getfield 87, 3) := by decide +kernel
theorem dX5_run_276 : decode cX5_run 276 = .ok (.iconst 0, 1) := by decide +kernel
theorem dX5_run_277 : decode cX5_run 277 = .ok (.bastore, 1) := by decide +kernel
theorem dX5_run_278 : decode cX5_run 278 = .ok (.aload_n 0, 1) := by decide +kernel
theorem dX5_run_279 : decode cX5_run 279 = .ok (.aload_n 0, 1) := by decide +kernel
theorem dX5_run_280 : decode cX5_run 280 = .ok (.getfield 87, 3) := by decide +kernel
theorem dX5_run_283 : decode cX5_run 283 = .ok (.iconst 1, 1) := by decide +kernel
theorem dX5_run_284 : decode cX5_run 284 = .ok (.iadd, 1) := by decide +kernel
theorem dX5_run_285 : decode cX5_run 285 = .ok (.putfield 87, 3) := by decide +kernel
theorem dX5_run_288 : decode cX5_run 288 = .ok (.iload 6, 2) := by decide +kernel
theorem dX5_run_290 : decode cX5_run 290 = .ok (.iconst 1, 1) := by decide +kernel
theorem dX5_run_291 : decode cX5_run 291 = .ok (.iadd, 1) := by decide +kernel
theorem dX5_run_292 : decode cX5_run 292 = .ok (.istore 4, 2) := by decide +kernel
theorem dX5_run_294 : decode cX5_run 294 = .ok (.goto 33, 3) := by decide +kernel
theorem dX5_run_297 : decode cX5_run 297 = .ok (.aload_n 0, 1) := by decide +kernel
theorem dX5_run_298 : decode cX5_run 298 = .ok (.getfield 17, 3) := by decide +kernel
theorem dX5_run_301 : decode cX5_run 301 = .ok (.iload 6, 2) := by decide +kernel
theorem dX5_run_303 : decode cX5_run 303 = .ok (.iaload, 1) := by decide +kernel
theorem dX5_run_304 : decode cX5_run 304 = .ok (.iconst 4, 1) := by decide +kernel
theorem dX5_run_305 : decode cX5_run 305 = .ok (.if_icmp .ne 13, 3) := by decide +kernel
theorem dX5_run_308 : decode cX5_run 308 = .ok (.aload_n 0, 1) := by decide +kernel
theorem dX5_run_309 : decode cX5_run 309 = .ok (.getfield 26, 3) := by decide +kernel
theorem dX5_run_312 : decode cX5_run 312 = .ok (.iload 6, 2) := by decide +kernel
theorem dX5_run_314 : decode cX5_run 314 = .ok (.iaload, 1) := by decide +kernel
theorem dX5_run_315 : decode cX5_run 315 = .ok (.goto 10, 3) := by decide +kernel
theorem dX5_run_318 : decode cX5_run 318 = .ok (.aload_n 0, 1) := by decide +kernel
theorem dX5_run_319 : decode cX5_run 319 = .ok (.getfield 29, 3) := by decide +kernel
theorem dX5_run_322 : decode cX5_run 322 = .ok (.iload 6, 2) := by decide +kernel
theorem dX5_run_324 : decode cX5_run 324 = .ok (.iaload, 1) := by decide +kernel
theorem dX5_run_325 : decode cX5_run 325 = .ok (.istore 4, 2) := by decide +kernel
theorem dX5_run_327 : decode cX5_run 327 = .ok (.iinc 5 1, 3) := by decide +kernel
theorem dX5_run_330 : decode cX5_run 330 = .ok (.goto (-279), 3) := by decide +kernel
theorem dX5_run_333 : decode cX5_run 333 = .ok (.aload_n 0, 1) := by decide +kernel
theorem dX5_run_334 : decode cX5_run 334 = .ok (.getfield 118, 3) := by decide +kernel
theorem dX5_run_337 : decode cX5_run 337 = .ok (.ifCond .ne 24, 3) := by decide +kernel
theorem dX5_run_340 : decode cX5_run 340 = .ok (.aload_n 0, 1) := by decide +kernel
theorem dX5_run_341 : decode cX5_run 341 = .ok (.invokevirtual 111, 3) := by decide +kernel
theorem dX5_run_344 : decode cX5_run 344 = .ok (.ifCond .eq 17, 3) := by decide +kernel
theorem dX5_run_347 : decode cX5_run 347 = .ok (.aload_n 0, 1) := by decide +kernel
theorem dX5_run_348 : decode cX5_run 348 = .ok (.bipush 7, 2) := by decide +kernel
theorem dX5_run_350 : decode cX5_run 350 = .ok (.putfield 118, 3) := by decide +kernel
theorem dX5_run_353 : decode cX5_run 353 = .ok (.aload_n 0, 1) := by decide +kernel
theorem dX5_run_354 : decode cX5_run 354 = .ok (.aload_n 0, 1) := by decide +kernel
theorem dX5_run_355 : decode cX5_run 355 = .ok (.getfield 73, 3) := by decide +kernel
theorem dX5_run_358 : decode cX5_run 358 = .ok (.putfield 63, 3) := by decide +kernel
theorem dX5_run_361 : decode cX5_run 361 = .ok (.iconst 0, 1) := by decide +kernel
theorem dX5_run_362 : decode cX5_run 362 = .ok (.istore 5, 2) := by decide +kernel
theorem dX5_run_364 : decode cX5_run 364 = .ok (.iload 5, 2) := by decide +kernel
theorem dX5_run_366 : decode cX5_run 366 = .ok (.iconst 4, 1) := by decide +kernel
theorem dX5_run_367 : decode cX5_run 367 = .ok (.if_icmp .ge 23, 3) := by decide +kernel
theorem dX5_run_370 : decode cX5_run 370 = .ok (.aload_n 0, 1) := by decide +kernel
theorem dX5_run_371 : decode cX5_run 371 = .ok (.getfield 41, 3) := by decide +kernel
theorem dX5_run_374 : decode cX5_run 374 = .ok (.iload 5, 2) := by decide +kernel
theorem dX5_run_376 : decode cX5_run 376 = .ok (.aload_n 0, 1) := by decide +kernel
theorem dX5_run_377 : decode cX5_run 377 = .ok (.getfield 38, 3) := by decide +kernel
theorem dX5_run_380 : decode cX5_run 380 = .ok (.iload 5, 2) := by decide +kernel
theorem dX5_run_382 : decode cX5_run 382 = .ok (.iaload, 1) := by decide +kernel
theorem dX5_run_383 : decode cX5_run 383 = .ok (.iastore, 1) := by decide +kernel
theorem dX5_run_384 : decode cX5_run 384 = .ok (.iinc 5 1, 3) := by decide +kernel
theorem dX5_run_387 : decode cX5_run 387 = .ok (.goto (-23), 3) := by decide +kernel
theorem dX5_run_390 : decode cX5_run 390 = .ok (.aload_n 0, 1) := by decide +kernel
theorem dX5_run_391 : decode cX5_run 391 = .ok (.aload_n 0, 1) := by decide +kernel
theorem dX5_run_392 : decode cX5_run 392 = .ok (.getfield 118, 3) := by decide +kernel
theorem dX5_run_395 : decode cX5_run 395 = .ok (.ifCond .le 7, 3) := by decide +kernel
theorem dX5_run_398 : decode cX5_run 398 = .ok (.iconst 2, 1) := by decide +kernel
theorem dX5_run_399 : decode cX5_run 399 = .ok (.goto 4, 3) := by decide +kernel
theorem dX5_run_402 : decode cX5_run 402 = .ok (.iconst 0, 1) := by decide +kernel
theorem dX5_run_403 : decode cX5_run 403 = .ok (.putfield 66, 3) := by decide +kernel
theorem dX5_run_406 : decode cX5_run 406 = .ok (.aload_n 0, 1) := by decide +kernel
theorem dX5_run_407 : decode cX5_run 407 = .ok (.getfield 115, 3) := by decide +kernel
theorem dX5_run_410 : decode cX5_run 410 = .ok (.ireturn, 1) := by decide +kernel
theorem dX5_runFault_0 : decode cX5_runFault 0 = .ok (.aload_n 0, 1) := by decide +kernel
theorem dX5_runFault_1 : decode cX5_runFault 1 = .ok (.iconst 0, 1) := by decide +kernel
theorem dX5_runFault_2 : decode cX5_runFault 2 = .ok (.putfield 66, 3) := by decide +kernel
theorem dX5_runFault_5 : decode cX5_runFault 5 = .ok (.aload_n 0, 1) := by decide +kernel
theorem dX5_runFault_6 : decode cX5_runFault 6 = .ok (.getfield 118, 3) := by decide +kernel
theorem dX5_runFault_9 : decode cX5_runFault 9 = .ok (.ireturn, 1) := by decide +kernel
theorem dX5_runAt_0 : decode cX5_runAt 0 = .ok (.aload_n 0, 1) := by decide +kernel
theorem dX5_runAt_1 : decode cX5_runAt 1 = .ok (.iconst 0, 1) := by decide +kernel
theorem dX5_runAt_2 : decode cX5_runAt 2 = .ok (.putfield 66, 3) := by decide +kernel
theorem dX5_runAt_5 : decode cX5_runAt 5 = .ok (.aload_n 0, 1) := by decide +kernel
theorem dX5_runAt_6 : decode cX5_runAt 6 = .ok (.getfield 63, 3) := by decide +kernel
theorem dX5_runAt_9 : decode cX5_runAt 9 = .ok (.ireturn, 1) := by decide +kernel
theorem dX5_steps_0 : decode cX5_steps 0 = .ok (.aload_n 0, 1) := by decide +kernel
theorem dX5_steps_1 : decode cX5_steps 1 = .ok (.iconst 0, 1) := by decide +kernel
theorem dX5_steps_2 : decode cX5_steps 2 = .ok (.putfield 66, 3) := by decide +kernel
theorem dX5_steps_5 : decode cX5_steps 5 = .ok (.aload_n 0, 1) := by decide +kernel
theorem dX5_steps_6 : decode cX5_steps 6 = .ok (.getfield 115, 3) := by decide +kernel
theorem dX5_steps_9 : decode cX5_steps 9 = .ok (.ireturn, 1) := by decide +kernel
set_option maxRecDepth 20000 in
theorem ggX5_left_X5_within : GoodIn wsX5_left wsX5_within := goodIn_r _ [6] (by decide +kernel) (by decide +kernel)
set_option maxRecDepth 20000 in
theorem gX5_left_X5_within : GoodIn wsX5_left (va_wsS RX5 69 yX5_within wsX5_within) := goodIn_app (goodIn_of _ (by decide +kernel)) ggX5_left_X5_within
theorem dX5_left_0 : decode cX5_left 0 = .ok (.aload_n 0, 1) := by decide +kernel
theorem dX5_left_1 : decode cX5_left 1 = .ok (.iconst 0, 1) := by decide +kernel
theorem dX5_left_2 : decode cX5_left 2 = .ok (.putfield 66, 3) := by decide +kernel
theorem dX5_left_5 : decode cX5_left 5 = .ok (.iload_n 1, 1) := by decide +kernel
theorem dX5_left_6 : decode cX5_left 6 = .ok (.iconst 3, 1) := by decide +kernel
theorem dX5_left_7 : decode cX5_left 7 = .ok (.invokestatic 69, 3) := by decide +kernel
theorem dX5_left_10 : decode cX5_left 10 = .ok (.ifCond .eq 12, 3) := by decide +kernel
theorem dX5_left_13 : decode cX5_left 13 = .ok (.aload_n 0, 1) := by decide +kernel
theorem dX5_left_14 : decode cX5_left 14 = .ok (.getfield 41, 3) := by decide +kernel
theorem dX5_left_17 : decode cX5_left 17 = .ok (.iload_n 1, 1) := by decide +kernel
theorem dX5_left_18 : decode cX5_left 18 = .ok (.iaload, 1) := by decide +kernel
theorem dX5_left_19 : decode cX5_left 19 = .ok (.goto 5, 3) := by decide +kernel
theorem dX5_left_22 : decode cX5_left 22 = .ok (.bipush (-2), 2) := by decide +kernel
theorem dX5_left_24 : decode cX5_left 24 = .ok (.ireturn, 1) := by decide +kernel
end
section
/-! The judgement V: from every heap that holds the world w, at pc, with locals lv and stack st, the method comes to its end as xQ says. A rule an instruction. -/
abbrev XX : Type := va_G × List (ClassId × FieldType) × Launch × Room × va_W × (Array Value → List Frame → State → State → Prop) × (Array Value → State → Prop)
abbrev KI : Type := ByteArray × List Cond × String × Nat × Option FieldType × String
abbrev xD (x : XX) : va_G := x.1
abbrev xT (x : XX) : List (ClassId × FieldType) := x.2.1
abbrev xl (x : XX) : Launch := x.2.2.1
abbrev xR (x : XX) : Room := x.2.2.2.1
abbrev xw (x : XX) : va_W := x.2.2.2.2.1
abbrev xQ (x : XX) : Array Value → List Frame → State → State → Prop := x.2.2.2.2.2.1
abbrev xE (x : XX) : Array Value → State → Prop := x.2.2.2.2.2.2
abbrev kT (k : KI) : List Cond := k.2.1
abbrev kO (k : KI) : String := k.2.2.1
abbrev kN (k : KI) : Nat := k.2.2.2.1
abbrev kR (k : KI) : Option FieldType := k.2.2.2.2.1
abbrev kM (k : KI) : String := k.2.2.2.2.2
/-- the words on private members of nest mates -/
def nestF : List (String × Nat × String × String × String) := [("StateTypes$Running", 57, "StateTypes$Program", "kinds", "[I"), ("StateTypes$Checking", 69, "StateTypes$Program", "kinds", "[I"), ("StateTypes$Checking", 56, "StateTypes$Program", "numbers", "[I"), ("StateTypes$Running", 76, "StateTypes$Program", "numbers", "[I"), ("StateTypes$Running", 65, "StateTypes$Program", "jumps", "[I"), ("StateTypes$Checking", 49, "StateTypes$Program", "entries", "I"), ("StateTypes$Running", 54, "StateTypes$Program", "statements", "I"), ("StateTypes$Checking", 40, "StateTypes$Program", "statements", "I"), ("StateTypes", 80, "StateTypes$Program", "statements", "I"), ("StateTypes", 88, "StateTypes$Checking", "place", "I"), ("StateTypes", 113, "StateTypes$Running", "fault", "I"), ("StateTypes", 124, "StateTypes$Running", "place", "I"), ("StateTypes", 121, "StateTypes$Running", "stepsDone", "I"), ("StateTypes", 125, "StateTypes$Running", "all", "I")]
def nestM : List (String × Nat × MethodName) := [(RX2, 25, yX4_isBelow), (RX1, 40, yX4_isBelow), (RX0, 36, yX4_isBelow), (RX1, 60, yX4_heldBy), (RX1, 64, yX4_objectOf), (RX1, 67, yX4_withHeld), (RX1, 76, yX4_protocolOf), (RX2, 29, yX4_heldBy)]
def NW (U : State) : Prop := (∀ q ∈ nestF, va_Nw (.fieldLinkNest q.1 q.2.1 q.2.2.1 q.2.2.2.1 q.2.2.2.2 "StateTypes") U) ∧ ∀ q ∈ nestM, va_Nw (.methodLinkNest q.1 q.2.1 q.2.2 "StateTypes") U
theorem NW.warm {s U : State} (hW : s.WarmedH U.vm) (h : NW s) : NW U := ⟨fun q hq => va_Nw.warmF hW (h.1 q hq), fun q hq => va_Nw.warmM hW (h.2 q hq)⟩
theorem NW.same {s U : State} (hv : s.vm = U.vm) (h : NW s) : NW U := ⟨fun q hq => va_Nw.same rfl hv (h.1 q hq), fun q hq => va_Nw.same rfl hv (h.2 q hq)⟩
def zok (x : XX) (k : KI) (p : Program) (s : State) (m : MethodId) (args : Array Value) (meth : Method) (c : Code) : Prop :=
  p.tables.exec = Jvm.exec ∧ c.code = k.1 ∧ c.maxLocals = kN k ∧ s.vm.findClass (kO k) = some m.cls ∧ (∀ w ∈ kT k, w.before args s = true) ∧ va_K (xD x) vwCl (xT x) s ∧ NW s ∧ meth.locks = false ∧ meth.sig.returnType = kR k ∧ meth.name = kM k ∧ xE x args s
def V (x : XX) (k : KI) (cs ss : Nat) (w : va_W) (pc : Nat) (lv : List (Nat × Value)) (st : List Value) : Prop :=
  ∀ (p : Program) (e : Env) (s : State) (m : MethodId) (args : Array Value) (below : List Frame) (meth : Method) (c : Code), zok x k p s m args meth c →
  ∀ (H : Heap) (locs : List Loc) (ls : Array Slot), va_P (xD x) vwCl w H → va_D (va_A (xw x) s.heap.size) w → va_S (va_A (xw x) s.heap.size) s.heap H locs → lv_has ls (kN k) lv →
  W p (xl x) e (xR x) s m args below meth c H locs cs ss (xQ x args below s) (F0 m pc ls st)
section RULES
variable {x : XX} {k : KI} {cs ss : Nat} {w : va_W} {pc : Nat} {lv : List (Nat × Value)} {st : List Value}
theorem lvl {ls : Array Slot} {n : Nat} {lv : List (Nat × Value)} (h : lv_has ls n lv) {i : Nat} {v : Value} (hk : lv.lookup i = some v) : ls[i]? = some (.val v) := by
  refine h.2.2 (i, v) ?_
  clear h
  induction lv with
  | nil => cases hk
  | cons q t ih =>
    obtain ⟨j, u⟩ := q
    by_cases hj : i = j
    · subst hj
      simp [List.lookup] at hk
      subst hk
      exact List.mem_cons_self
    · have : (i == j) = false := by simpa using hj
      simp [List.lookup, this] at hk
      exact List.mem_cons_of_mem _ (ih hk)

theorem v_iconst {n : Int} {v : Int32} (pc' : Nat) (hp : pc + 1 = pc') (hd : decode k.1 pc = .ok (.iconst n, 1)) (hv : Int32.ofInt n = v) (h : V x k cs ss w pc' lv (.int v :: st)) : V x k cs ss w pc lv (st) := by
  subst hp
  intro p e s m args below meth c Z H locs ls hP hD hS hl
  exact lv_iconst Z.1 Z.2.1 hd hv (h p e s m args below meth c Z H locs ls hP hD hS hl)
theorem v_bipush {n : Int} {v : Int32} (pc' : Nat) (hp : pc + 2 = pc') (hd : decode k.1 pc = .ok (.bipush n, 2)) (hv : (Int8.ofInt n).toInt32 = v) (h : V x k cs ss w pc' lv (.int v :: st)) : V x k cs ss w pc lv (st) := by
  subst hp
  intro p e s m args below meth c Z H locs ls hP hD hS hl
  exact lv_bipush Z.1 Z.2.1 hd hv (h p e s m args below meth c Z H locs ls hP hD hS hl)
theorem v_sipush {n : Int} {v : Int32} (pc' : Nat) (hp : pc + 3 = pc') (hd : decode k.1 pc = .ok (.sipush n, 3)) (hv : (Int16.ofInt n).toInt32 = v) (h : V x k cs ss w pc' lv (.int v :: st)) : V x k cs ss w pc lv (st) := by
  subst hp
  intro p e s m args below meth c Z H locs ls hP hD hS hl
  exact lv_sipush Z.1 Z.2.1 hd hv (h p e s m args below meth c Z H locs ls hP hD hS hl)
theorem v_ldc {i : Nat} {v : Int32} (pc' : Nat) (hp : pc + 2 = pc') (hd : decode k.1 pc = .ok (.ldc i, 2)) (hc : Cond.constant (kO k) i v ∈ kT k) (h : V x k cs ss w pc' lv (.int v :: st)) : V x k cs ss w pc lv (st) := by
  subst hp
  intro p e s m args below meth c Z H locs ls hP hD hS hl
  exact lv_ldc Z.1 Z.2.1 Z.2.2.2.1 (Z.2.2.2.2.1 _ hc) hd (h p e s m args below meth c Z H locs ls hP hD hS hl)
theorem v_iload_n {f : Fin 4} {i : Nat} {v : Int32} (pc' : Nat) (hp : pc + 1 = pc') (hd : decode k.1 pc = .ok (.iload_n f, 1)) (hi : (f : Nat) = i) (hv : lv.lookup i = some (.int v)) (h : V x k cs ss w pc' lv (.int v :: st)) : V x k cs ss w pc lv (st) := by
  subst hp
  intro p e s m args below meth c Z H locs ls hP hD hS hl
  exact lv_iload_n Z.1 Z.2.1 hd hi (lvl hl hv) (h p e s m args below meth c Z H locs ls hP hD hS hl)
theorem v_iload {i : Nat} {v : Int32} (pc' : Nat) (hp : pc + 2 = pc') (hd : decode k.1 pc = .ok (.iload i, 2)) (hv : lv.lookup i = some (.int v)) (h : V x k cs ss w pc' lv (.int v :: st)) : V x k cs ss w pc lv (st) := by
  subst hp
  intro p e s m args below meth c Z H locs ls hP hD hS hl
  exact lv_iload Z.1 Z.2.1 hd (lvl hl hv) (h p e s m args below meth c Z H locs ls hP hD hS hl)
theorem v_aload_n {f : Fin 4} {i a : Nat} (pc' : Nat) (hp : pc + 1 = pc') (hd : decode k.1 pc = .ok (.aload_n f, 1)) (hi : (f : Nat) = i) (hv : lv.lookup i = some (.ref a)) (h : V x k cs ss w pc' lv (.ref a :: st)) : V x k cs ss w pc lv (st) := by
  subst hp
  intro p e s m args below meth c Z H locs ls hP hD hS hl
  exact lv_aload_n Z.1 Z.2.1 hd hi (lvl hl hv) (h p e s m args below meth c Z H locs ls hP hD hS hl)
theorem v_aload {i a : Nat} (pc' : Nat) (hp : pc + 2 = pc') (hd : decode k.1 pc = .ok (.aload i, 2)) (hv : lv.lookup i = some (.ref a)) (h : V x k cs ss w pc' lv (.ref a :: st)) : V x k cs ss w pc lv (st) := by
  subst hp
  intro p e s m args below meth c Z H locs ls hP hD hS hl
  exact lv_aload Z.1 Z.2.1 hd (lvl hl hv) (h p e s m args below meth c Z H locs ls hP hD hS hl)
theorem v_istore_n {f : Fin 4} {i : Nat} {v : Int32} {lv' : List (Nat × Value)} (pc' : Nat) (hp : pc + 1 = pc') (hd : decode k.1 pc = .ok (.istore_n f, 1)) (hi : (f : Nat) = i) (hn : i < kN k) (hv : (i, Value.int v) :: lv.filter (fun q => !(q.1 == i) && !(q.1 + 1 == i && q.2.category == 2)) = lv') (h : V x k cs ss w pc' lv' st) : V x k cs ss w pc lv (Value.int v :: st) := by
  subst hp
  intro p e s m args below meth c Z H locs ls hP hD hS hl
  exact lv_istore_n Z.1 Z.2.1 hd hi hl hn hv (fun ls' hl' => h p e s m args below meth c Z H locs ls' hP hD hS hl')
theorem v_istore {i : Nat} {v : Int32} {lv' : List (Nat × Value)} (pc' : Nat) (hp : pc + 2 = pc') (hd : decode k.1 pc = .ok (.istore i, 2)) (hn : i < kN k) (hv : (i, Value.int v) :: lv.filter (fun q => !(q.1 == i) && !(q.1 + 1 == i && q.2.category == 2)) = lv') (h : V x k cs ss w pc' lv' st) : V x k cs ss w pc lv (Value.int v :: st) := by
  subst hp
  intro p e s m args below meth c Z H locs ls hP hD hS hl
  exact lv_istore Z.1 Z.2.1 hd hl hn hv (fun ls' hl' => h p e s m args below meth c Z H locs ls' hP hD hS hl')
theorem v_astore_n {f : Fin 4} {i : Nat} {v : Nat} {lv' : List (Nat × Value)} (pc' : Nat) (hp : pc + 1 = pc') (hd : decode k.1 pc = .ok (.astore_n f, 1)) (hi : (f : Nat) = i) (hn : i < kN k) (hv : (i, Value.ref v) :: lv.filter (fun q => !(q.1 == i) && !(q.1 + 1 == i && q.2.category == 2)) = lv') (h : V x k cs ss w pc' lv' st) : V x k cs ss w pc lv (Value.ref v :: st) := by
  subst hp
  intro p e s m args below meth c Z H locs ls hP hD hS hl
  exact lv_astore_n Z.1 Z.2.1 hd hi hl hn hv (fun ls' hl' => h p e s m args below meth c Z H locs ls' hP hD hS hl')
theorem v_astore {i : Nat} {v : Nat} {lv' : List (Nat × Value)} (pc' : Nat) (hp : pc + 2 = pc') (hd : decode k.1 pc = .ok (.astore i, 2)) (hn : i < kN k) (hv : (i, Value.ref v) :: lv.filter (fun q => !(q.1 == i) && !(q.1 + 1 == i && q.2.category == 2)) = lv') (h : V x k cs ss w pc' lv' st) : V x k cs ss w pc lv (Value.ref v :: st) := by
  subst hp
  intro p e s m args below meth c Z H locs ls hP hD hS hl
  exact lv_astore Z.1 Z.2.1 hd hl hn hv (fun ls' hl' => h p e s m args below meth c Z H locs ls' hP hD hS hl')
theorem v_iinc {i : Nat} {n : Int} {a v : Int32} {lv' : List (Nat × Value)} (pc' : Nat) (hp : pc + 3 = pc') (hd : decode k.1 pc = .ok (.iinc i n, 3)) (q : Nat) (hq : lv[q]? = some (i, .int a)) (hav : a + Int32.ofInt n = v) (hn : i < kN k) (hv : (i, Value.int v) :: lv.filter (fun q => !(q.1 == i) && !(q.1 + 1 == i && q.2.category == 2)) = lv') (h : V x k cs ss w pc' lv' st) : V x k cs ss w pc lv st := by
  subst hp
  intro p e s m args below meth c Z H locs ls hP hD hS hl
  exact lv_iinc Z.1 Z.2.1 hd hl hq hav hn hv (fun ls' hl' => h p e s m args below meth c Z H locs ls' hP hD hS hl')
theorem v_lv {lv' : List (Nat × Value)} (is : List Nat) (hv : lv_pick lv is = lv') (h : V x k cs ss w pc lv' st) : V x k cs ss w pc lv st := by
  intro p e s m args below meth c Z H locs ls hP hD hS hl
  exact h p e s m args below meth c Z H locs ls hP hD hS (lv_sub hl is hv)
theorem v_w {w' : va_W} (hw : w = w') (h : V x k cs ss w' pc lv st) : V x k cs ss w pc lv st := by subst hw; exact h
theorem v_st {st' : List Value} (hs : st = st') (h : V x k cs ss w pc lv st') : V x k cs ss w pc lv st := by subst hs; exact h
theorem v_top {v v' : Int32} (hs : v = v') (h : V x k cs ss w pc lv (.int v' :: st)) : V x k cs ss w pc lv (.int v :: st) := by subst hs; exact h
theorem v_iadd {a b : Int32} (pc' : Nat) (hp : pc + 1 = pc') (hd : decode k.1 pc = .ok (.iadd, 1)) (h : V x k cs ss w pc' lv (.int (a + b) :: st)) : V x k cs ss w pc lv (.int b :: .int a :: st) := by
  subst hp
  intro p e s m args below meth c Z H locs ls hP hD hS hl
  exact lv_iadd Z.1 Z.2.1 hd (h p e s m args below meth c Z H locs ls hP hD hS hl)
theorem v_isub {a b : Int32} (pc' : Nat) (hp : pc + 1 = pc') (hd : decode k.1 pc = .ok (.isub, 1)) (h : V x k cs ss w pc' lv (.int (a - b) :: st)) : V x k cs ss w pc lv (.int b :: .int a :: st) := by
  subst hp
  intro p e s m args below meth c Z H locs ls hP hD hS hl
  exact lv_isub Z.1 Z.2.1 hd (h p e s m args below meth c Z H locs ls hP hD hS hl)
theorem v_imul {a b : Int32} (pc' : Nat) (hp : pc + 1 = pc') (hd : decode k.1 pc = .ok (.imul, 1)) (h : V x k cs ss w pc' lv (.int (a * b) :: st)) : V x k cs ss w pc lv (.int b :: .int a :: st) := by
  subst hp
  intro p e s m args below meth c Z H locs ls hP hD hS hl
  exact lv_imul Z.1 Z.2.1 hd (h p e s m args below meth c Z H locs ls hP hD hS hl)
theorem v_iand {a b : Int32} (pc' : Nat) (hp : pc + 1 = pc') (hd : decode k.1 pc = .ok (.iand, 1)) (h : V x k cs ss w pc' lv (.int (a &&& b) :: st)) : V x k cs ss w pc lv (.int b :: .int a :: st) := by
  subst hp
  intro p e s m args below meth c Z H locs ls hP hD hS hl
  exact lv_iand Z.1 Z.2.1 hd (h p e s m args below meth c Z H locs ls hP hD hS hl)
theorem v_ior {a b : Int32} (pc' : Nat) (hp : pc + 1 = pc') (hd : decode k.1 pc = .ok (.ior, 1)) (h : V x k cs ss w pc' lv (.int (a ||| b) :: st)) : V x k cs ss w pc lv (.int b :: .int a :: st) := by
  subst hp
  intro p e s m args below meth c Z H locs ls hP hD hS hl
  exact lv_ior Z.1 Z.2.1 hd (h p e s m args below meth c Z H locs ls hP hD hS hl)
theorem v_ixor {a b : Int32} (pc' : Nat) (hp : pc + 1 = pc') (hd : decode k.1 pc = .ok (.ixor, 1)) (h : V x k cs ss w pc' lv (.int (a ^^^ b) :: st)) : V x k cs ss w pc lv (.int b :: .int a :: st) := by
  subst hp
  intro p e s m args below meth c Z H locs ls hP hD hS hl
  exact lv_ixor Z.1 Z.2.1 hd (h p e s m args below meth c Z H locs ls hP hD hS hl)
theorem v_idiv {a b : Int32} (pc' : Nat) (hp : pc + 1 = pc') (hd : decode k.1 pc = .ok (.idiv, 1)) (hne : ¬ b = 0) (h : V x k cs ss w pc' lv (.int (a / b) :: st)) : V x k cs ss w pc lv (.int b :: .int a :: st) := by
  subst hp
  intro p e s m args below meth c Z H locs ls hP hD hS hl
  exact lv_idiv Z.1 Z.2.1 hd hne (h p e s m args below meth c Z H locs ls hP hD hS hl)
theorem v_irem {a b : Int32} (pc' : Nat) (hp : pc + 1 = pc') (hd : decode k.1 pc = .ok (.irem, 1)) (hne : ¬ b = 0) (h : V x k cs ss w pc' lv (.int (a - a / b * b) :: st)) : V x k cs ss w pc lv (.int b :: .int a :: st) := by
  subst hp
  intro p e s m args below meth c Z H locs ls hP hD hS hl
  exact lv_irem Z.1 Z.2.1 hd hne (h p e s m args below meth c Z H locs ls hP hD hS hl)
theorem v_ineg {a : Int32} (pc' : Nat) (hp : pc + 1 = pc') (hd : decode k.1 pc = .ok (.ineg, 1)) (h : V x k cs ss w pc' lv (.int (-a) :: st)) : V x k cs ss w pc lv (.int a :: st) := by
  subst hp
  intro p e s m args below meth c Z H locs ls hP hD hS hl
  exact lv_ineg Z.1 Z.2.1 hd (h p e s m args below meth c Z H locs ls hP hD hS hl)
theorem v_iushr {a b v : Int32} (pc' : Nat) (hp : pc + 1 = pc') (hd : decode k.1 pc = .ok (.iushr, 1)) (hv : (a.toUInt32 >>> (b.toUInt32 &&& Int32.toUInt32 31)).toInt32 = v) (h : V x k cs ss w pc' lv (.int v :: st)) : V x k cs ss w pc lv (.int b :: .int a :: st) := by
  subst hp
  intro p e s m args below meth c Z H locs ls hP hD hS hl
  exact lv_iushr Z.1 Z.2.1 hd hv (h p e s m args below meth c Z H locs ls hP hD hS hl)
theorem v_ishl {a b : Int32} (pc' : Nat) (hp : pc + 1 = pc') (hd : decode k.1 pc = .ok (.ishl, 1)) (h : V x k cs ss w pc' lv (.int (a <<< (b &&& 31)) :: st)) : V x k cs ss w pc lv (.int b :: .int a :: st) := by
  subst hp
  intro p e s m args below meth c Z H locs ls hP hD hS hl
  exact lv_ishl Z.1 Z.2.1 hd (h p e s m args below meth c Z H locs ls hP hD hS hl)
theorem v_ishr {a b : Int32} (pc' : Nat) (hp : pc + 1 = pc') (hd : decode k.1 pc = .ok (.ishr, 1)) (h : V x k cs ss w pc' lv (.int (a >>> (b &&& 31)) :: st)) : V x k cs ss w pc lv (.int b :: .int a :: st) := by
  subst hp
  intro p e s m args below meth c Z H locs ls hP hD hS hl
  exact lv_ishr Z.1 Z.2.1 hd (h p e s m args below meth c Z H locs ls hP hD hS hl)
theorem v_dup {va : Value} (pc' : Nat) (hp : pc + 1 = pc') (hd : decode k.1 pc = .ok (.dup, 1)) (hc : va.category = 1) (h : V x k cs ss w pc' lv (va :: va :: st)) : V x k cs ss w pc lv (va :: st) := by
  subst hp
  intro p e s m args below meth c Z H locs ls hP hD hS hl
  exact lv_dup Z.1 Z.2.1 hd hc (h p e s m args below meth c Z H locs ls hP hD hS hl)
theorem v_pop {va : Value} (pc' : Nat) (hp : pc + 1 = pc') (hd : decode k.1 pc = .ok (.pop, 1)) (hc : va.category = 1) (h : V x k cs ss w pc' lv (st)) : V x k cs ss w pc lv (va :: st) := by
  subst hp
  intro p e s m args below meth c Z H locs ls hP hD hS hl
  exact lv_pop Z.1 Z.2.1 hd hc (h p e s m args below meth c Z H locs ls hP hD hS hl)
theorem v_dup_x1 {va vb : Value} (pc' : Nat) (hp : pc + 1 = pc') (hd : decode k.1 pc = .ok (.dup_x1, 1)) (hc : va.category = 1) (hc2 : vb.category = 1) (h : V x k cs ss w pc' lv (va :: vb :: va :: st)) : V x k cs ss w pc lv (va :: vb :: st) := by
  subst hp
  intro p e s m args below meth c Z H locs ls hP hD hS hl
  exact lv_dup_x1 Z.1 Z.2.1 hd hc hc2 (h p e s m args below meth c Z H locs ls hP hD hS hl)
theorem v_iaddN {a b : Nat} (pc' : Nat) (hp : pc + 1 = pc') (hd : decode k.1 pc = .ok (.iadd, 1)) (h : V x k cs ss w pc' lv (.int (nI (a + b)) :: st)) : V x k cs ss w pc lv (.int (nI b) :: .int (nI a) :: st) := v_iadd pc' hp hd (by rw [nI_add]; exact h)
theorem v_isubN {a b : Nat} (pc' : Nat) (hp : pc + 1 = pc') (hd : decode k.1 pc = .ok (.isub, 1)) (hle : b ≤ a) (h : V x k cs ss w pc' lv (.int (nI (a - b)) :: st)) : V x k cs ss w pc lv (.int (nI b) :: .int (nI a) :: st) := v_isub pc' hp hd (by rw [pk_sub hle]; exact h)
theorem v_imulN {a b : Nat} (pc' : Nat) (hp : pc + 1 = pc') (hd : decode k.1 pc = .ok (.imul, 1)) (h : V x k cs ss w pc' lv (.int (nI (a * b)) :: st)) : V x k cs ss w pc lv (.int (nI b) :: .int (nI a) :: st) := v_imul pc' hp hd (by rw [pk_mul]; exact h)
theorem v_idivN {a b : Nat} (pc' : Nat) (hp : pc + 1 = pc') (hd : decode k.1 pc = .ok (.idiv, 1)) (ha : a < 2 ^ 31) (h0 : 0 < b) (hb : b < 2 ^ 31) (h : V x k cs ss w pc' lv (.int (nI (a / b)) :: st)) : V x k cs ss w pc lv (.int (nI b) :: .int (nI a) :: st) := v_idiv pc' hp hd (nI_ne0 h0 hb) (by rw [pk_div ha h0 hb]; exact h)
theorem v_iremN {a b : Nat} (pc' : Nat) (hp : pc + 1 = pc') (hd : decode k.1 pc = .ok (.irem, 1)) (ha : a < 2 ^ 31) (h0 : 0 < b) (hb : b < 2 ^ 31) (h : V x k cs ss w pc' lv (.int (nI (a % b)) :: st)) : V x k cs ss w pc lv (.int (nI b) :: .int (nI a) :: st) := v_irem pc' hp hd (nI_ne0 h0 hb) (by rw [pk_rem ha h0 hb]; exact h)
theorem v_goto {off : Int} (tgt : Nat) (hd : decode k.1 pc = .ok (.goto off, 3)) (ht : (pc : Int) + off = (tgt : Int)) (h : V x k cs ss w tgt lv st) : V x k cs ss w pc lv st := by
  intro p e s m args below meth c Z H locs ls hP hD hS hl
  exact lv_goto Z.1 Z.2.1 hd ht (h p e s m args below meth c Z H locs ls hP hD hS hl)
theorem v_if_eq {a : Int32} {off : Int} (tgt pc' : Nat) (hp : pc + 3 = pc') (hd : decode k.1 pc = .ok (.ifCond .eq off, 3)) (ht : (pc : Int) + off = (tgt : Int)) (h1 : a = 0 → V x k cs ss w tgt lv st) (h2 : ¬ a = 0 → V x k cs ss w pc' lv st) : V x k cs ss w pc lv (.int a :: st) := by
  subst hp
  intro p e s m args below meth c Z H locs ls hP hD hS hl
  exact lv_if_eq Z.1 Z.2.1 hd ht (fun q => h1 q p e s m args below meth c Z H locs ls hP hD hS hl) (fun q => h2 q p e s m args below meth c Z H locs ls hP hD hS hl)
theorem v_if_ne {a : Int32} {off : Int} (tgt pc' : Nat) (hp : pc + 3 = pc') (hd : decode k.1 pc = .ok (.ifCond .ne off, 3)) (ht : (pc : Int) + off = (tgt : Int)) (h1 : ¬ a = 0 → V x k cs ss w tgt lv st) (h2 : a = 0 → V x k cs ss w pc' lv st) : V x k cs ss w pc lv (.int a :: st) := by
  subst hp
  intro p e s m args below meth c Z H locs ls hP hD hS hl
  exact lv_if_ne Z.1 Z.2.1 hd ht (fun q => h1 q p e s m args below meth c Z H locs ls hP hD hS hl) (fun q => h2 q p e s m args below meth c Z H locs ls hP hD hS hl)
theorem v_if_lt {a : Int32} {off : Int} (tgt pc' : Nat) (hp : pc + 3 = pc') (hd : decode k.1 pc = .ok (.ifCond .lt off, 3)) (ht : (pc : Int) + off = (tgt : Int)) (h1 : a < 0 → V x k cs ss w tgt lv st) (h2 : ¬ a < 0 → V x k cs ss w pc' lv st) : V x k cs ss w pc lv (.int a :: st) := by
  subst hp
  intro p e s m args below meth c Z H locs ls hP hD hS hl
  exact lv_if_lt Z.1 Z.2.1 hd ht (fun q => h1 q p e s m args below meth c Z H locs ls hP hD hS hl) (fun q => h2 q p e s m args below meth c Z H locs ls hP hD hS hl)
theorem v_if_ge {a : Int32} {off : Int} (tgt pc' : Nat) (hp : pc + 3 = pc') (hd : decode k.1 pc = .ok (.ifCond .ge off, 3)) (ht : (pc : Int) + off = (tgt : Int)) (h1 : 0 ≤ a → V x k cs ss w tgt lv st) (h2 : ¬ 0 ≤ a → V x k cs ss w pc' lv st) : V x k cs ss w pc lv (.int a :: st) := by
  subst hp
  intro p e s m args below meth c Z H locs ls hP hD hS hl
  exact lv_if_ge Z.1 Z.2.1 hd ht (fun q => h1 q p e s m args below meth c Z H locs ls hP hD hS hl) (fun q => h2 q p e s m args below meth c Z H locs ls hP hD hS hl)
theorem v_if_gt {a : Int32} {off : Int} (tgt pc' : Nat) (hp : pc + 3 = pc') (hd : decode k.1 pc = .ok (.ifCond .gt off, 3)) (ht : (pc : Int) + off = (tgt : Int)) (h1 : 0 < a → V x k cs ss w tgt lv st) (h2 : ¬ 0 < a → V x k cs ss w pc' lv st) : V x k cs ss w pc lv (.int a :: st) := by
  subst hp
  intro p e s m args below meth c Z H locs ls hP hD hS hl
  exact lv_if_gt Z.1 Z.2.1 hd ht (fun q => h1 q p e s m args below meth c Z H locs ls hP hD hS hl) (fun q => h2 q p e s m args below meth c Z H locs ls hP hD hS hl)
theorem v_if_le {a : Int32} {off : Int} (tgt pc' : Nat) (hp : pc + 3 = pc') (hd : decode k.1 pc = .ok (.ifCond .le off, 3)) (ht : (pc : Int) + off = (tgt : Int)) (h1 : a ≤ 0 → V x k cs ss w tgt lv st) (h2 : ¬ a ≤ 0 → V x k cs ss w pc' lv st) : V x k cs ss w pc lv (.int a :: st) := by
  subst hp
  intro p e s m args below meth c Z H locs ls hP hD hS hl
  exact lv_if_le Z.1 Z.2.1 hd ht (fun q => h1 q p e s m args below meth c Z H locs ls hP hD hS hl) (fun q => h2 q p e s m args below meth c Z H locs ls hP hD hS hl)
theorem v_icmp_eq {a b : Int32} {off : Int} (tgt pc' : Nat) (hp : pc + 3 = pc') (hd : decode k.1 pc = .ok (.if_icmp .eq off, 3)) (ht : (pc : Int) + off = (tgt : Int)) (h1 : a = b → V x k cs ss w tgt lv st) (h2 : ¬ a = b → V x k cs ss w pc' lv st) : V x k cs ss w pc lv (.int b :: .int a :: st) := by
  subst hp
  intro p e s m args below meth c Z H locs ls hP hD hS hl
  exact lv_icmp_eq Z.1 Z.2.1 hd ht (fun q => h1 q p e s m args below meth c Z H locs ls hP hD hS hl) (fun q => h2 q p e s m args below meth c Z H locs ls hP hD hS hl)
theorem v_icmp_ne {a b : Int32} {off : Int} (tgt pc' : Nat) (hp : pc + 3 = pc') (hd : decode k.1 pc = .ok (.if_icmp .ne off, 3)) (ht : (pc : Int) + off = (tgt : Int)) (h1 : ¬ a = b → V x k cs ss w tgt lv st) (h2 : a = b → V x k cs ss w pc' lv st) : V x k cs ss w pc lv (.int b :: .int a :: st) := by
  subst hp
  intro p e s m args below meth c Z H locs ls hP hD hS hl
  exact lv_icmp_ne Z.1 Z.2.1 hd ht (fun q => h1 q p e s m args below meth c Z H locs ls hP hD hS hl) (fun q => h2 q p e s m args below meth c Z H locs ls hP hD hS hl)
theorem v_icmp_lt {a b : Int32} {off : Int} (tgt pc' : Nat) (hp : pc + 3 = pc') (hd : decode k.1 pc = .ok (.if_icmp .lt off, 3)) (ht : (pc : Int) + off = (tgt : Int)) (h1 : a < b → V x k cs ss w tgt lv st) (h2 : ¬ a < b → V x k cs ss w pc' lv st) : V x k cs ss w pc lv (.int b :: .int a :: st) := by
  subst hp
  intro p e s m args below meth c Z H locs ls hP hD hS hl
  exact lv_icmp_lt Z.1 Z.2.1 hd ht (fun q => h1 q p e s m args below meth c Z H locs ls hP hD hS hl) (fun q => h2 q p e s m args below meth c Z H locs ls hP hD hS hl)
theorem v_icmp_ge {a b : Int32} {off : Int} (tgt pc' : Nat) (hp : pc + 3 = pc') (hd : decode k.1 pc = .ok (.if_icmp .ge off, 3)) (ht : (pc : Int) + off = (tgt : Int)) (h1 : b ≤ a → V x k cs ss w tgt lv st) (h2 : ¬ b ≤ a → V x k cs ss w pc' lv st) : V x k cs ss w pc lv (.int b :: .int a :: st) := by
  subst hp
  intro p e s m args below meth c Z H locs ls hP hD hS hl
  exact lv_icmp_ge Z.1 Z.2.1 hd ht (fun q => h1 q p e s m args below meth c Z H locs ls hP hD hS hl) (fun q => h2 q p e s m args below meth c Z H locs ls hP hD hS hl)
theorem v_icmp_gt {a b : Int32} {off : Int} (tgt pc' : Nat) (hp : pc + 3 = pc') (hd : decode k.1 pc = .ok (.if_icmp .gt off, 3)) (ht : (pc : Int) + off = (tgt : Int)) (h1 : b < a → V x k cs ss w tgt lv st) (h2 : ¬ b < a → V x k cs ss w pc' lv st) : V x k cs ss w pc lv (.int b :: .int a :: st) := by
  subst hp
  intro p e s m args below meth c Z H locs ls hP hD hS hl
  exact lv_icmp_gt Z.1 Z.2.1 hd ht (fun q => h1 q p e s m args below meth c Z H locs ls hP hD hS hl) (fun q => h2 q p e s m args below meth c Z H locs ls hP hD hS hl)
theorem v_icmp_le {a b : Int32} {off : Int} (tgt pc' : Nat) (hp : pc + 3 = pc') (hd : decode k.1 pc = .ok (.if_icmp .le off, 3)) (ht : (pc : Int) + off = (tgt : Int)) (h1 : a ≤ b → V x k cs ss w tgt lv st) (h2 : ¬ a ≤ b → V x k cs ss w pc' lv st) : V x k cs ss w pc lv (.int b :: .int a :: st) := by
  subst hp
  intro p e s m args below meth c Z H locs ls hP hD hS hl
  exact lv_icmp_le Z.1 Z.2.1 hd ht (fun q => h1 q p e s m args below meth c Z H locs ls hP hD hS hl) (fun q => h2 q p e s m args below meth c Z H locs ls hP hD hS hl)
theorem v_icmp_eqN {a b : Nat} {off : Int} (tgt pc' : Nat) (hp : pc + 3 = pc') (hd : decode k.1 pc = .ok (.if_icmp .eq off, 3)) (ht : (pc : Int) + off = (tgt : Int)) (ha : a < 2 ^ 31) (hb : b < 2 ^ 31) (h1 : a = b → V x k cs ss w tgt lv st) (h2 : a ≠ b → V x k cs ss w pc' lv st) : V x k cs ss w pc lv (.int (nI b) :: .int (nI a) :: st) := v_icmp_eq tgt pc' hp hd ht (fun q => h1 ((nI_eq ha hb).mp q)) (fun q => h2 (fun z => q ((nI_eq ha hb).mpr z)))
theorem v_icmp_neN {a b : Nat} {off : Int} (tgt pc' : Nat) (hp : pc + 3 = pc') (hd : decode k.1 pc = .ok (.if_icmp .ne off, 3)) (ht : (pc : Int) + off = (tgt : Int)) (ha : a < 2 ^ 31) (hb : b < 2 ^ 31) (h1 : a ≠ b → V x k cs ss w tgt lv st) (h2 : a = b → V x k cs ss w pc' lv st) : V x k cs ss w pc lv (.int (nI b) :: .int (nI a) :: st) := v_icmp_ne tgt pc' hp hd ht (fun q => h1 (fun z => q ((nI_eq ha hb).mpr z))) (fun q => h2 ((nI_eq ha hb).mp q))
theorem v_icmp_ltN {a b : Nat} {off : Int} (tgt pc' : Nat) (hp : pc + 3 = pc') (hd : decode k.1 pc = .ok (.if_icmp .lt off, 3)) (ht : (pc : Int) + off = (tgt : Int)) (ha : a < 2 ^ 31) (hb : b < 2 ^ 31) (h1 : a < b → V x k cs ss w tgt lv st) (h2 : b ≤ a → V x k cs ss w pc' lv st) : V x k cs ss w pc lv (.int (nI b) :: .int (nI a) :: st) := v_icmp_lt tgt pc' hp hd ht (fun q => h1 ((nI_ltI ha hb).mp q)) (fun q => h2 (Nat.not_lt.mp (fun z => q ((nI_ltI ha hb).mpr z))))
theorem v_icmp_geN {a b : Nat} {off : Int} (tgt pc' : Nat) (hp : pc + 3 = pc') (hd : decode k.1 pc = .ok (.if_icmp .ge off, 3)) (ht : (pc : Int) + off = (tgt : Int)) (ha : a < 2 ^ 31) (hb : b < 2 ^ 31) (h1 : b ≤ a → V x k cs ss w tgt lv st) (h2 : a < b → V x k cs ss w pc' lv st) : V x k cs ss w pc lv (.int (nI b) :: .int (nI a) :: st) := v_icmp_ge tgt pc' hp hd ht (fun q => h1 ((nI_leI hb ha).mp q)) (fun q => h2 (Nat.not_le.mp (fun z => q ((nI_leI hb ha).mpr z))))
theorem v_icmp_gtN {a b : Nat} {off : Int} (tgt pc' : Nat) (hp : pc + 3 = pc') (hd : decode k.1 pc = .ok (.if_icmp .gt off, 3)) (ht : (pc : Int) + off = (tgt : Int)) (ha : a < 2 ^ 31) (hb : b < 2 ^ 31) (h1 : b < a → V x k cs ss w tgt lv st) (h2 : a ≤ b → V x k cs ss w pc' lv st) : V x k cs ss w pc lv (.int (nI b) :: .int (nI a) :: st) := v_icmp_gt tgt pc' hp hd ht (fun q => h1 ((nI_ltI hb ha).mp q)) (fun q => h2 (Nat.not_lt.mp (fun z => q ((nI_ltI hb ha).mpr z))))
theorem v_icmp_leN {a b : Nat} {off : Int} (tgt pc' : Nat) (hp : pc + 3 = pc') (hd : decode k.1 pc = .ok (.if_icmp .le off, 3)) (ht : (pc : Int) + off = (tgt : Int)) (ha : a < 2 ^ 31) (hb : b < 2 ^ 31) (h1 : a ≤ b → V x k cs ss w tgt lv st) (h2 : b < a → V x k cs ss w pc' lv st) : V x k cs ss w pc lv (.int (nI b) :: .int (nI a) :: st) := v_icmp_le tgt pc' hp hd ht (fun q => h1 ((nI_leI ha hb).mp q)) (fun q => h2 (Nat.not_le.mp (fun z => q ((nI_leI ha hb).mpr z))))
theorem nI_z {a : Nat} (ha : a < 2 ^ 31) : nI a = 0 ↔ a = 0 := nI_eq (b := 0) ha (by omega)
theorem v_if_eqN {a : Nat} {off : Int} (tgt pc' : Nat) (hp : pc + 3 = pc') (hd : decode k.1 pc = .ok (.ifCond .eq off, 3)) (ht : (pc : Int) + off = (tgt : Int)) (ha : a < 2 ^ 31) (h1 : a = 0 → V x k cs ss w tgt lv st) (h2 : 0 < a → V x k cs ss w pc' lv st) : V x k cs ss w pc lv (.int (nI a) :: st) := v_if_eq tgt pc' hp hd ht (fun q => h1 ((nI_z ha).mp q)) (fun q => h2 (Nat.pos_of_ne_zero (fun z => q ((nI_z ha).mpr z))))
theorem v_if_neN {a : Nat} {off : Int} (tgt pc' : Nat) (hp : pc + 3 = pc') (hd : decode k.1 pc = .ok (.ifCond .ne off, 3)) (ht : (pc : Int) + off = (tgt : Int)) (ha : a < 2 ^ 31) (h1 : 0 < a → V x k cs ss w tgt lv st) (h2 : a = 0 → V x k cs ss w pc' lv st) : V x k cs ss w pc lv (.int (nI a) :: st) := v_if_ne tgt pc' hp hd ht (fun q => h1 (Nat.pos_of_ne_zero (fun z => q ((nI_z ha).mpr z)))) (fun q => h2 ((nI_z ha).mp q))
theorem v_if_gtN {a : Nat} {off : Int} (tgt pc' : Nat) (hp : pc + 3 = pc') (hd : decode k.1 pc = .ok (.ifCond .gt off, 3)) (ht : (pc : Int) + off = (tgt : Int)) (ha : a < 2 ^ 31) (h1 : 0 < a → V x k cs ss w tgt lv st) (h2 : a = 0 → V x k cs ss w pc' lv st) : V x k cs ss w pc lv (.int (nI a) :: st) := v_if_gt tgt pc' hp hd ht (fun q => h1 ((nI_ltI (a := 0) (by omega) ha).mp q)) (fun q => h2 (Nat.eq_zero_of_not_pos (fun z => q ((nI_ltI (a := 0) (by omega) ha).mpr z))))
theorem v_if_leN {a : Nat} {off : Int} (tgt pc' : Nat) (hp : pc + 3 = pc') (hd : decode k.1 pc = .ok (.ifCond .le off, 3)) (ht : (pc : Int) + off = (tgt : Int)) (ha : a < 2 ^ 31) (h1 : a = 0 → V x k cs ss w tgt lv st) (h2 : 0 < a → V x k cs ss w pc' lv st) : V x k cs ss w pc lv (.int (nI a) :: st) := v_if_le tgt pc' hp hd ht (fun q => h1 (Nat.le_zero.mp ((nI_leI (b := 0) ha (by omega)).mp q))) (fun q => h2 (Nat.pos_of_ne_zero (fun z => q ((nI_leI (b := 0) ha (by omega)).mpr (Nat.le_of_eq z)))))
theorem v_if_ltN {a : Nat} {off : Int} (tgt pc' : Nat) (hp : pc + 3 = pc') (hd : decode k.1 pc = .ok (.ifCond .lt off, 3)) (ht : (pc : Int) + off = (tgt : Int)) (ha : a < 2 ^ 31) (h2 : V x k cs ss w pc' lv st) : V x k cs ss w pc lv (.int (nI a) :: st) := v_if_lt tgt pc' hp hd ht (fun q => absurd q (nI_pos ha)) (fun _ => h2)
theorem v_if_geN {a : Nat} {off : Int} (tgt pc' : Nat) (hp : pc + 3 = pc') (hd : decode k.1 pc = .ok (.ifCond .ge off, 3)) (ht : (pc : Int) + off = (tgt : Int)) (ha : a < 2 ^ 31) (h1 : V x k cs ss w tgt lv st) : V x k cs ss w pc lv (.int (nI a) :: st) := v_if_ge tgt pc' hp hd ht (fun _ => h1) (fun q => absurd (nI_pos' ha) q)
def bI (b : Bool) : Int32 := if b then 1 else 0
theorem v_if_eqB {b : Bool} {off : Int} (tgt pc' : Nat) (hp : pc + 3 = pc') (hd : decode k.1 pc = .ok (.ifCond .eq off, 3)) (ht : (pc : Int) + off = (tgt : Int)) (h1 : b = false → V x k cs ss w tgt lv st) (h2 : b = true → V x k cs ss w pc' lv st) : V x k cs ss w pc lv (.int (bI b) :: st) := v_if_eq tgt pc' hp hd ht (fun q => h1 (by cases b; rfl; exact absurd q (by decide))) (fun q => h2 (by cases b; exact absurd rfl q; rfl))
theorem v_if_neB {b : Bool} {off : Int} (tgt pc' : Nat) (hp : pc + 3 = pc') (hd : decode k.1 pc = .ok (.ifCond .ne off, 3)) (ht : (pc : Int) + off = (tgt : Int)) (h1 : b = true → V x k cs ss w tgt lv st) (h2 : b = false → V x k cs ss w pc' lv st) : V x k cs ss w pc lv (.int (bI b) :: st) := v_if_ne tgt pc' hp hd ht (fun q => h1 (by cases b; exact absurd rfl q; rfl)) (fun q => h2 (by cases b; rfl; exact absurd q (by decide)))
theorem v_tabIn {dflt lo hi : Int} {offs : Array Int} {len a : Nat} {off : Int} (tgt : Nat) (hd : decode k.1 pc = .ok (.tableswitch dflt lo hi offs, len)) (ha : a < 2 ^ 31) (h1 : lo ≤ (a : Int)) (h2 : (a : Int) ≤ hi) (ho : offs[((a : Int) - lo).toNat]? = some off) (ht : (pc : Int) + off = (tgt : Int)) (h : V x k cs ss w tgt lv st) : V x k cs ss w pc lv (.int (nI a) :: st) := by
  intro p e s m args below meth c Z H locs ls hP hD hS hl
  have e1 : (nI a).toInt = (a : Int) := nI_toInt ha
  exact lv_tableIn Z.1 Z.2.1 hd (by rw [e1]; omega) (by rw [e1]; omega) (by rw [e1]; exact ho) ht (h p e s m args below meth c Z H locs ls hP hD hS hl)
theorem v_tabOut {dflt lo hi : Int} {offs : Array Int} {len a : Nat} (tgt : Nat) (hd : decode k.1 pc = .ok (.tableswitch dflt lo hi offs, len)) (ha : a < 2 ^ 31) (h1 : (a : Int) < lo ∨ hi < (a : Int)) (ht : (pc : Int) + dflt = (tgt : Int)) (h : V x k cs ss w tgt lv st) : V x k cs ss w pc lv (.int (nI a) :: st) := by
  intro p e s m args below meth c Z H locs ls hP hD hS hl
  have e1 : (nI a).toInt = (a : Int) := nI_toInt ha
  exact lv_tableOut Z.1 Z.2.1 hd (by rw [e1]; exact h1) ht (h p e s m args below meth c Z H locs ls hP hD hS hl)
/-- fields -/
theorem v_get {C : String} {T : u_T} {N ci idx a : Nat} {fs : List Value} {v : Value} (pc' : Nat) (hp : pc + 3 = pc') (q0 fk : Nat) (hd : decode k.1 pc = .ok (.getfield idx, 3)) (hc : vwCl[ci]? = some (C, T, N)) (hk : fk < N) (hin : ∀ w ∈ u_ws C T N, w ∈ kT k) (hlink : Cond.fieldLink (kO k) idx (T fk).1 (T fk).2.1 (T fk).2.2.1 ∈ kT k) (he : w[q0]? = some (a, .inr (ci, fs))) (hv : fs[fk]? = some v) (h : V x k cs ss w pc' lv (v :: st)) : V x k cs ss w pc lv (.ref a :: st) := by
  subst hp
  intro p e s m args below meth c Z H locs ls hP hD hS hl
  exact va_get Z.1 Z.2.1 Z.2.2.2.2.1 hin Z.2.2.2.1 Z.2.2.2.2.2.1 hP q0 he hc fk hk (Z.2.2.2.2.1 _ hlink) (fun _ h9 => h9) hv hd (h p e s m args below meth c Z H locs ls hP hD hS hl)
theorem v_getN {C : String} {T : u_T} {N ci idx a : Nat} {fs : List Value} {v : Value} (pc' : Nat) (hp : pc + 3 = pc') (q0 fk : Nat) (hd : decode k.1 pc = .ok (.getfield idx, 3)) (hc : vwCl[ci]? = some (C, T, N)) (hk : fk < N) (hin : ∀ w ∈ u_ws C T N, w ∈ kT k) (hlink : (kO k, idx, (T fk).1, (T fk).2.1, (T fk).2.2.1) ∈ nestF) (he : w[q0]? = some (a, .inr (ci, fs))) (hv : fs[fk]? = some v) (h : V x k cs ss w pc' lv (v :: st)) : V x k cs ss w pc lv (.ref a :: st) := by
  subst hp
  intro p e s m args below meth c Z H locs ls hP hD hS hl
  exact va_getN Z.1 Z.2.1 Z.2.2.2.2.1 hin Z.2.2.2.1 Z.2.2.2.2.2.1 hP q0 he hc fk hk (va_Nw.use rfl (Z.2.2.2.2.2.2.1.1 _ hlink)) (fun _ h9 => h9) hv hd (h p e s m args below meth c Z H locs ls hP hD hS hl)
theorem v_put {C : String} {T : u_T} {ty0 : Nat → FieldType} {N ci idx a : Nat} {fs : List Value} {v : Value} {ty : FieldType} {w' : va_W} (pc' : Nat) (hp : pc + 3 = pc') (q0 fk : Nat) (hd : decode k.1 pc = .ok (.putfield idx, 3)) (hc : vwCl[ci]? = some (C, T, N)) (hk : fk < N) (hin : ∀ w ∈ u_ws C T N, w ∈ kT k) (hty : ∀ k, k < N → parseFieldDescriptor (T k).2.2.1 = some (ty0 k)) (hnm : ∀ a, a < N → ∀ b, b < N → a ≠ b → (T a).2.1 ≠ (T b).2.1) (hlink : Cond.fieldLink (kO k) idx (T fk).1 (T fk).2.1 (T fk).2.2.1 ∈ kT k) (hfin : (T fk).2.2.2 = false) (hpd : parseFieldDescriptor (T fk).2.2.1 = some ty) (hn : narrow ty v = v) (hfit : fits ty v = true) (he : w[q0]? = some (a, .inr (ci, fs))) (hl0 : fk < fs.length) (hw : w.set q0 (a, .inr (ci, fs.set fk v)) = w') (h : V x k cs ss w' pc' lv st) : V x k cs ss w pc lv (v :: .ref a :: st) := by
  subst hp
  intro p e s m args below meth c Z H locs ls hP hD hS hl
  exact va_put Z.1 Z.2.1 Z.2.2.2.2.1 hin ty0 hty hnm Z.2.2.2.1 Z.2.2.2.2.2.1 hP hD hS q0 he hc fk hk (Z.2.2.2.2.1 _ hlink) (fun _ h9 => h9) hfin hpd hn hfit hl0 hd (fun H1 locs1 hP1 hD1 hS1 => h p e s m args below meth c Z H1 locs1 ls (hw ▸ hP1) (hw ▸ hD1) hS1 hl)
theorem v_putF {C : String} {T : u_T} {ty0 : Nat → FieldType} {N ci idx a : Nat} {fs : List Value} {v : Value} {ty : FieldType} {w' : va_W} (pc' : Nat) (hp : pc + 3 = pc') (q0 fk : Nat) (hd : decode k.1 pc = .ok (.putfield idx, 3)) (hc : vwCl[ci]? = some (C, T, N)) (hk : fk < N) (hin : ∀ w ∈ u_ws C T N, w ∈ kT k) (hty : ∀ k, k < N → parseFieldDescriptor (T k).2.2.1 = some (ty0 k)) (hnm : ∀ a, a < N → ∀ b, b < N → a ≠ b → (T a).2.1 ≠ (T b).2.1) (hlink : Cond.fieldLink (kO k) idx (T fk).1 (T fk).2.1 (T fk).2.2.1 ∈ kT k) (hfin : (T fk).2.2.2 = true) (hini : kM k = "<init>") (hdecl : (T fk).1 = kO k) (hpd : parseFieldDescriptor (T fk).2.2.1 = some ty) (hn : narrow ty v = v) (hfit : fits ty v = true) (he : w[q0]? = some (a, .inr (ci, fs))) (hl0 : fk < fs.length) (hw : w.set q0 (a, .inr (ci, fs.set fk v)) = w') (h : V x k cs ss w' pc' lv st) : V x k cs ss w pc lv (v :: .ref a :: st) := by
  subst hp
  intro p e s m args below meth c Z H locs ls hP hD hS hl
  exact va_putF Z.1 Z.2.1 Z.2.2.2.2.1 hin ty0 hty hnm Z.2.2.2.1 Z.2.2.2.2.2.1 hP hD hS q0 he hc fk hk (Z.2.2.2.2.1 _ hlink) (fun _ h9 => h9) hfin (Z.2.2.2.2.2.2.2.2.2.1.trans hini) hdecl hpd hn hfit hl0 hd (fun H1 locs1 hP1 hD1 hS1 => h p e s m args below meth c Z H1 locs1 ls (hw ▸ hP1) (hw ▸ hD1) hS1 hl)
/-- arrays: the index is a natural number -/
theorem v_iald {cA : ClassId} {n a j : Nat} {f : Nat → Int32} {v : Int32} (pc' : Nat) (hp : pc + 1 = pc') (q0 t0 : Nat) (hd : decode k.1 pc = .ok (.iaload, 1)) (ha : w[q0]? = some (a, .inl (cA, n, .inl f))) (ht : (xT x)[t0]? = some (cA, .int)) (hj : j < n) (hn : n < 2 ^ 31) (hv : f j = v) (h : V x k cs ss w pc' lv (.int v :: st)) : V x k cs ss w pc lv (.int (nI j) :: .ref a :: st) := by
  subst hp
  subst hv
  intro p e s m args below meth c Z H locs ls hP hD hS hl
  exact va_iald Z.1 Z.2.1 Z.2.2.2.2.2.1 hP q0 t0 ha ht (vp_in_nI hj hn) hd (by rw [nI_clamp (Nat.lt_trans hj hn)]; exact h p e s m args below meth c Z H locs ls hP hD hS hl)
theorem v_zald {cA : ClassId} {n a j : Nat} {f : Nat → Int32} {v : Int32} (pc' : Nat) (hp : pc + 1 = pc') (q0 t0 : Nat) (hd : decode k.1 pc = .ok (.baload, 1)) (ha : w[q0]? = some (a, .inl (cA, n, .inl f))) (ht : (xT x)[t0]? = some (cA, .boolean)) (hj : j < n) (hn : n < 2 ^ 31) (hv : f j = v) (h : V x k cs ss w pc' lv (.int v :: st)) : V x k cs ss w pc lv (.int (nI j) :: .ref a :: st) := by
  subst hp
  subst hv
  intro p e s m args below meth c Z H locs ls hP hD hS hl
  exact va_zald Z.1 Z.2.1 Z.2.2.2.2.2.1 hP q0 t0 ha ht (vp_in_nI hj hn) hd (by rw [nI_clamp (Nat.lt_trans hj hn)]; exact h p e s m args below meth c Z H locs ls hP hD hS hl)
theorem v_iast {cA : ClassId} {n a j : Nat} {f : Nat → Int32} {v : Int32} {w' : va_W} (pc' : Nat) (hp : pc + 1 = pc') (q0 t0 : Nat) (hd : decode k.1 pc = .ok (.iastore, 1)) (ha : w[q0]? = some (a, .inl (cA, n, .inl f))) (ht : (xT x)[t0]? = some (cA, .int)) (hj : j < n) (hn : n < 2 ^ 31) (hw : w.set q0 (a, .inl (cA, n, .inl (upd f j v))) = w') (h : V x k cs ss w' pc' lv st) : V x k cs ss w pc lv (.int v :: .int (nI j) :: .ref a :: st) := by
  subst hp
  subst hw
  intro p e s m args below meth c Z H locs ls hP hD hS hl
  exact va_iast Z.1 Z.2.1 Z.2.2.2.2.2.1 hP hD hS q0 t0 ha ht (vp_in_nI hj hn) hd (fun H1 locs1 hP1 hD1 hS1 => h p e s m args below meth c Z H1 locs1 ls (by rw [nI_clamp (Nat.lt_trans hj hn)] at hP1; exact hP1) (by rw [nI_clamp (Nat.lt_trans hj hn)] at hD1; exact hD1) hS1 hl)
theorem nar_bI (b : Bool) : vp_nar .boolean (bI b) = bI b := by cases b <;> rfl
theorem v_zast {cA : ClassId} {n a j : Nat} {f : Nat → Int32} {b : Bool} {w' : va_W} (pc' : Nat) (hp : pc + 1 = pc') (q0 t0 : Nat) (hd : decode k.1 pc = .ok (.bastore, 1)) (ha : w[q0]? = some (a, .inl (cA, n, .inl f))) (ht : (xT x)[t0]? = some (cA, .boolean)) (hj : j < n) (hn : n < 2 ^ 31) (hw : w.set q0 (a, .inl (cA, n, .inl (upd f j (bI b)))) = w') (h : V x k cs ss w' pc' lv st) : V x k cs ss w pc lv (.int (bI b) :: .int (nI j) :: .ref a :: st) := by
  subst hp
  subst hw
  intro p e s m args below meth c Z H locs ls hP hD hS hl
  exact va_zast Z.1 Z.2.1 Z.2.2.2.2.2.1 hP hD hS q0 t0 ha ht (vp_in_nI hj hn) hd (fun H1 locs1 hP1 hD1 hS1 => h p e s m args below meth c Z H1 locs1 ls (by rw [nI_clamp (Nat.lt_trans hj hn), nar_bI] at hP1; exact hP1) (by rw [nI_clamp (Nat.lt_trans hj hn), nar_bI] at hD1; exact hD1) hS1 hl)
theorem v_alen {cA : ClassId} {n a : Nat} {f : Nat → Int32} {ty : FieldType} (pc' : Nat) (hp : pc + 1 = pc') (q0 t0 : Nat) (hd : decode k.1 pc = .ok (.arraylength, 1)) (ha : w[q0]? = some (a, .inl (cA, n, .inl f))) (ht : (xT x)[t0]? = some (cA, ty)) (h : V x k cs ss w pc' lv (.int (nI n) :: st)) : V x k cs ss w pc lv (.ref a :: st) := by
  subst hp
  intro p e s m args below meth c Z H locs ls hP hD hS hl
  exact va_alen Z.1 Z.2.1 Z.2.2.2.2.2.1 hP q0 t0 ha ht rfl hd (h p e s m args below meth c Z H locs ls hP hD hS hl)
/-- contracts: in the world w the method returns r and leaves the world w' -/
def KPre (D : va_G) (tys : List (ClassId × FieldType)) (w : va_W) (sz : Nat) (U : State) : Prop := U.heap.size = sz ∧ va_P D vwCl w U.heap ∧ va_K D vwCl tys U ∧ NW U ∧ va_D (fun _ => True) w
def KPost (D : va_G) (w w' : va_W) (sz : Nat) (r : Option Value) (st : State) (oc : Outcome) (t : State) : Prop := oc = .returned r ∧ va_P D vwCl w' t.heap ∧ va_F (va_A w sz) st t
abbrev rmK (fr lo : Nat) : Room := { frames := fr, cells := 0, slots := 0, locals := lo }
def KM (D : va_G) (tys : List (ClassId × FieldType)) (l : Launch) (y : MethodName) (ws : List Cond) (fr lo : Nat) (av : List Value) (w : va_W) (r : Option Value) (w' : va_W) : Prop :=
  ∀ sz : Nat, Met l y ws (rmK fr lo) (va_Pc av (KPre D tys w sz)) (fun _ st oc t => KPost D w w' sz r st oc t) 0 0 (va_A w sz)
abbrev xM (D : va_G) (tys : List (ClassId × FieldType)) (l : Launch) (fr lo : Nat) (w : va_W) (r : Option Value) (w' : va_W) : XX := (D, tys, l, rmK fr lo, w, (fun args below s => MQ below (fun _ st oc t => KPost D w w' s.heap.size r st oc t) args s 0 0 (va_A w s.heap.size)), (fun _ _ => True))
theorem KPre.blind {D : va_G} {tys : List (ClassId × FieldType)} {w : va_W} {sz : Nat} {av : List Value} : FrameBlind (va_Pc av (KPre D tys w sz)) := fun a U g mk q => by
  obtain ⟨q0, q1, q2, q3, q4, q5⟩ := q
  exact ⟨q0, q1, q2, va_K.moved (u := U) (U := U.calling g mk a) (Vm.Alike.refl U.vm) q3, NW.same (U := U.calling g mk a) rfl q4, q5⟩
theorem KM.of {D : va_G} {tys : List (ClassId × FieldType)} {l : Launch} {y : MethodName} {ws ws' : List Cond} {fr lo : Nat} {av : List Value} {w : va_W} {r : Option Value} {w' : va_W} {cc : ByteArray} {nL : Nat} {ret : Option FieldType} (hy : plainName y.cls = true) (hw : ws = Cond.code y cc nL ret :: ws') (hlen : (lg_sl av).length ≤ nL)
    (body : V (xM D tys l fr lo w r w') (cc, ws, y.cls, nL, ret, y.name) 0 0 w 0 (lv_args 0 av) []) : KM D tys l y ws fr lo av w r w' := by
  intro sz
  refine Met.ofW (cc := cc) (maxL := nL) (ret := ret) hy hw ?_
  intro p e s m args below meth c s₁ B hml hv
  obtain ⟨rfl, hsz, hP, hK, hN, hD0⟩ := hv
  subst hsz
  have hl := lv_entry av (n := nL) hlen
  rw [lg_entry_eq]
  exact body p e s m av.toArray below meth c ⟨B.exec, B.bytes, hml, findClass_of_methodNamed B.named, atoms_spec (ws := ws) B.pre, hK, hN, B.notSynchronized, B.returns, (name_of_methodNamed B.named B.method).1, trivial⟩ s.heap [] _ hP hD0.self va_S.rf hl
/-- returns -/
theorem v_iret {D : va_G} {tys : List (ClassId × FieldType)} {l : Launch} {fr lo : Nat} {w0 w' : va_W} {r : Option Value} {v : Int32} (hd : decode k.1 pc = .ok (.ireturn, 1)) (hr : kR k = some .int) (hv : some (.int v) = r) (hw : w = w') : V (xM D tys l fr lo w0 r w') k 0 0 w pc lv [.int v] := by
  subst hv
  subst hw
  intro p e s m args below meth c Z H locs ls hP hD hS hl
  have hlocks := Z.2.2.2.2.2.2.2.1
  show W p l e (rmK fr lo) s m args below meth c H locs 0 0 (MQ below (fun _ st oc t => KPost D w0 w s.heap.size (some (.int v)) st oc t) args s 0 0 (va_A w0 s.heap.size)) (F0 m pc ls [.int v])
  exact W.iret Z.1 Z.2.1 (Z.2.2.2.2.2.2.2.2.1.trans hr) (fun t ht hW => ⟨rfl, by rw [ht]; exact hP, hS.F ht⟩) hS.2.2 hd
theorem v_zret {D : va_G} {tys : List (ClassId × FieldType)} {l : Launch} {fr lo : Nat} {w0 w' : va_W} {r : Option Value} {b : Bool} (hd : decode k.1 pc = .ok (.ireturn, 1)) (hr : kR k = some .boolean) (hv : some (.int (bI b)) = r) (hw : w = w') : V (xM D tys l fr lo w0 r w') k 0 0 w pc lv [.int (bI b)] := by
  subst hv
  subst hw
  intro p e s m args below meth c Z H locs ls hP hD hS hl
  have hlocks := Z.2.2.2.2.2.2.2.1
  show W p l e (rmK fr lo) s m args below meth c H locs 0 0 (MQ below (fun _ st oc t => KPost D w0 w s.heap.size (some (.int (bI b))) st oc t) args s 0 0 (va_A w0 s.heap.size)) (F0 m pc ls [.int (bI b)])
  exact W.zret Z.1 Z.2.1 (Z.2.2.2.2.2.2.2.2.1.trans hr) (by cases b <;> rfl) (fun t ht hW => ⟨rfl, by rw [ht]; exact hP, hS.F ht⟩) hS.2.2 hd
theorem v_vret {D : va_G} {tys : List (ClassId × FieldType)} {l : Launch} {fr lo : Nat} {w0 w' : va_W} {r : Option Value} (hd : decode k.1 pc = .ok (.return_, 1)) (hr : kR k = none) (hv : none = r) (hw : w = w') : V (xM D tys l fr lo w0 r w') k 0 0 w pc lv [] := by
  subst hv
  subst hw
  intro p e s m args below meth c Z H locs ls hP hD hS hl
  have hlocks := Z.2.2.2.2.2.2.2.1
  show W p l e (rmK fr lo) s m args below meth c H locs 0 0 (MQ below (fun _ st oc t => KPost D w0 w s.heap.size none st oc t) args s 0 0 (va_A w0 s.heap.size)) (F0 m pc ls [])
  exact W.vret Z.1 Z.2.1 (Z.2.2.2.2.2.2.2.2.1.trans hr) (fun t ht hW => ⟨rfl, by rw [ht]; exact hP, hS.F ht⟩) hS.2.2 hd
end RULES
section CALLS
variable {p : Program} {l : Launch} {e : Env} {R : Room} {s : State} {m : MethodId} {args : Array Value} {below : List Frame} {meth : Method} {c : Code} {H : Heap} {locs : List Loc} {cells slots : Nat} {Q : State → Prop}
/-- behind a call: the world's other cells are as they were -/
theorem k_after {D : va_G} {pc : Nat} {ls : Array Slot} {st0 rest : List Value} {L wc wc' Rr : va_W} {r : Option Value} {H0 : Heap} {A0 : Nat → Prop} (hr : va_Run p l e R s m args below meth c H locs cells slots 0 0 (F0 m pc ls st0) rest (fun st oc t => KPost D wc wc' H.size r st oc t) (va_A wc H.size))
    (hP : va_P D vwCl (L ++ (wc ++ Rr)) H) (hD : va_D A0 (L ++ (wc ++ Rr))) (hS : va_S A0 H0 H locs) (hA : ∀ q, H0.size ≤ q → A0 q) (had : wc'.map (·.1) = wc.map (·.1))
    (kk : ∀ (H1 : Heap) (locs1 : List Loc), va_P D vwCl (L ++ (wc' ++ Rr)) H1 → va_D A0 (L ++ (wc' ++ Rr)) → va_S A0 H0 H1 locs1 → W p l e R s m args below meth c H1 locs1 cells slots Q (F0 m (pc + 3) ls (r.toList ++ rest))) : W p l e R s m args below meth c H locs cells slots Q (F0 m pc ls st0) := by
  intro T hT X
  obtain ⟨v, st₀, t, T', L', h0, X', hL, e1, e2, ⟨hv, hb, hz, hk⟩, st⟩ := hr T hT X
  cases hv
  rw [h0] at hz hk
  have hlen : wc'.length = wc.length := by
    have := congrArg List.length had
    simpa using this
  have hF : ∀ q, va_A wc H.size q → A0 q := by
    rintro q (⟨i, e0, hi⟩ | hi)
    · have hlt : i < wc.length := (List.getElem?_eq_some_iff.mp hi).1
      exact hD.2 (L.length + i) (q, e0) (by rw [List.getElem?_append_right (by omega), show L.length + i - L.length = i by omega, List.getElem?_append_left hlt]; exact hi)
    · exact hA q (Nat.le_trans hS.1 hi)
  have hD' : va_D A0 (L ++ (wc' ++ Rr)) := by
    have hm : (L ++ (wc' ++ Rr)).map (·.1) = (L ++ (wc ++ Rr)).map (·.1) := by simp [had]
    have look : ∀ (i : Nat) (q : Nat × va_E), (L ++ (wc' ++ Rr))[i]? = some q → ∃ q', (L ++ (wc ++ Rr))[i]? = some q' ∧ q'.1 = q.1 := by
      intro i q hq
      have h1 : ((L ++ (wc' ++ Rr)).map (·.1))[i]? = some q.1 := by rw [List.getElem?_map, hq]; rfl
      rw [hm, List.getElem?_map] at h1
      cases hh : (L ++ (wc ++ Rr))[i]? with
      | none => rw [hh] at h1; cases h1
      | some q' => rw [hh] at h1; exact ⟨q', rfl, Option.some.inj h1⟩
    refine ⟨fun i j a b ha hb hab => ?_, fun i q hq => ?_⟩
    · obtain ⟨a', ha', ea⟩ := look i a ha
      obtain ⟨b', hb', eb⟩ := look j b hb
      exact hD.1 i j a' b' ha' hb' (by rw [ea, eb, hab])
    · obtain ⟨q', hq', eq⟩ := look i q hq
      rw [← eq]
      exact hD.2 i q' hq'
  have apart : ∀ (i : Nat) (q : Nat × va_E), (L ++ (wc ++ Rr))[i]? = some q → (i < L.length ∨ L.length + wc.length ≤ i) → q.1 < H.size ∧ ¬ va_A wc H.size q.1 := by
    intro i q hq hi
    have hlt := (hP i q hq).lt
    refine ⟨hlt, ?_⟩
    rintro (⟨j, e0, hj⟩ | hj)
    · have hjl : j < wc.length := (List.getElem?_eq_some_iff.mp hj).1
      have hj' : (L ++ (wc ++ Rr))[L.length + j]? = some (q.1, e0) := by rw [List.getElem?_append_right (by omega), show L.length + j - L.length = j by omega, List.getElem?_append_left hjl]; exact hj
      have := hD.1 i (L.length + j) q (q.1, e0) hq hj' rfl
      omega
    · omega
  have hPn : va_P D vwCl (L ++ (wc' ++ Rr)) t.heap := by
    intro i q hq
    by_cases h1 : i < L.length
    · rw [List.getElem?_append_left h1] at hq
      have hq' : (L ++ (wc ++ Rr))[i]? = some q := by rw [List.getElem?_append_left h1]; exact hq
      obtain ⟨g1, g2⟩ := apart i q hq' (Or.inl h1)
      exact (hP i q hq').kept (hk q.1 g1 g2)
    · by_cases h2 : i < L.length + wc.length
      · rw [List.getElem?_append_right (by omega), List.getElem?_append_left (by omega)] at hq
        exact hb _ q hq
      · rw [List.getElem?_append_right (by omega), List.getElem?_append_right (by omega), hlen] at hq
        have hq' : (L ++ (wc ++ Rr))[i]? = some q := by rw [List.getElem?_append_right (by omega), List.getElem?_append_right (by omega)]; exact hq
        obtain ⟨g1, g2⟩ := apart i q hq' (Or.inr (by omega))
        exact (hP i q hq').kept (hk q.1 g1 g2)
  obtain ⟨t2, a1, b1⟩ := kk T'.heap (locs ++ L') (by rw [e1]; exact hPn) hD'
    ⟨Nat.le_trans hS.1 (by rw [e1]; exact hz), fun q h1 h2 => by rw [e1, hk q (Nat.lt_of_lt_of_le h1 hS.1) (fun z => h2 (hF q z))]; exact hS.2.1 q h1 h2, fun q hq => by
      rcases List.mem_append.mp hq with h | h
      · exact hS.2.2 q h
      · exact hF _ (hL q h)⟩ T' rfl X'
  exact ⟨t2, st t2 a1, b1⟩
end CALLS
section CALLS2
variable {x : XX} {k : KI} {cs ss : Nat} {w : va_W} {pc : Nat} {lv : List (Nat × Value)} {st : List Value}
theorem va_D.mid {A : Nat → Prop} {L wc Rr : va_W} (h : va_D A (L ++ (wc ++ Rr))) : va_D (fun _ => True) wc := by
  refine ⟨fun i j a b ha hb hab => ?_, fun _ _ _ => trivial⟩
  have hi : i < wc.length := (List.getElem?_eq_some_iff.mp ha).1
  have hj : j < wc.length := (List.getElem?_eq_some_iff.mp hb).1
  have := h.1 (L.length + i) (L.length + j) a b (by rw [List.getElem?_append_right (by omega), show L.length + i - L.length = i by omega, List.getElem?_append_left hi]; exact ha) (by rw [List.getElem?_append_right (by omega), show L.length + j - L.length = j by omega, List.getElem?_append_left hj]; exact hb) hab
  omega
theorem va_P.mid {D : va_G} {L wc Rr : va_W} {H : Heap} (h : va_P D vwCl (L ++ (wc ++ Rr)) H) : va_P D vwCl wc H := by
  intro i q hq
  have hi : i < wc.length := (List.getElem?_eq_some_iff.mp hq).1
  exact h (L.length + i) q (by rw [List.getElem?_append_right (by omega), show L.length + i - L.length = i by omega, List.getElem?_append_left hi]; exact hq)
/-- a virtual call: the callee's world lies in the middle of the caller's -/
theorem v_callV {y : MethodName} {wsY wsr : List Cond} {fr lo maxL n idx b ci q0 : Nat} {bytes : ByteArray} {ret : Option FieldType} {C : String} {qC : vw_C} {fs : List Value} {As : List Value} {r : Option Value} {S : List Value} (L wc wc' Rr : va_W) (pc' : Nat) (hp : pc + 3 = pc') (hM : KM (xD x) (xT x) (xl x) y wsY fr lo (.ref b :: As) wc r wc') (hg : GoodIn (kT k) (wsV (kO k) idx C y wsY)) (hwy : wsY = Cond.code y bytes maxL ret :: wsr)
    (hdc : y.cls = C ∧ y.cls ≠ "java/lang/invoke/MethodHandle" ∧ y.cls ≠ "java/lang/invoke/VarHandle" ∧ (parseMethodDescriptor y.desc).map (fun d => d.parameters.length) = some n) (hn : As.length = n) (hR : fr + 1 ≤ (xR x).frames ∧ 8 + (maxL + 11) + lo ≤ (xR x).locals) (hst : S = As.reverse ++ .ref b :: st) (hcat : (st.map fun v => v.category).sum ≤ 8) (hc : vwCl[ci]? = some qC) (hC : qC.1 = C) (he : wc[q0]? = some (b, .inr (ci, fs)))
    (hd : decode k.1 pc = .ok (.invokevirtual idx, 3)) (hcs : cs ≤ (xR x).cells ∧ ss ≤ (xR x).slots) (had : wc'.map (·.1) = wc.map (·.1)) (hw : w = L ++ (wc ++ Rr)) (h : V x k cs ss (L ++ (wc' ++ Rr)) pc' lv (r.toList ++ st)) : V x k cs ss w pc lv S := by
  subst hp
  subst hw
  subst hst
  intro p e s m args below meth c Z H locs ls hP hD hS hl
  have hPc := va_P.mid hP
  have hDc := va_D.mid hD
  have hrec := va_recv Z.2.2.2.2.2.1 hPc hc he
  rw [hC] at hrec
  refine k_after (va_runV (As := As) (rest := st) (n := n) ⟨Z.1, Z.2.1, Z.2.2.1, Z.2.2.2.1, Z.2.2.2.2.1⟩ (hM H.size) (cwV n Z.2.2.2.2.1 hg hwy rfl rfl hdc hR) ⟨KPre.blind, hrec, fun U hU hW => ⟨rfl, by rw [hU], by rw [hU]; exact hPc, va_K.moved hW.alike Z.2.2.2.2.2.1, NW.warm hW Z.2.2.2.2.2.2.1, hDc⟩⟩ rfl hn hl.1 rfl (lv_room hcat) hd hcs) hP hD hS (fun q hq => Or.inr hq) had (fun H1 locs1 hP1 hD1 hS1 => h p e s m args below meth c Z H1 locs1 ls hP1 hD1 hS1 hl)
/-- the same, the callee's world is the caller's -/
theorem v_callF {y : MethodName} {wsY wsr : List Cond} {fr lo maxL n idx b ci q0 : Nat} {bytes : ByteArray} {ret : Option FieldType} {C : String} {qC : vw_C} {fs : List Value} {As : List Value} {r : Option Value} {w' : va_W} {S : List Value} (pc' : Nat) (hp : pc + 3 = pc') (hM : KM (xD x) (xT x) (xl x) y wsY fr lo (.ref b :: As) w r w') (hg : GoodIn (kT k) (wsV (kO k) idx C y wsY)) (hwy : wsY = Cond.code y bytes maxL ret :: wsr)
    (hdc : y.cls = C ∧ y.cls ≠ "java/lang/invoke/MethodHandle" ∧ y.cls ≠ "java/lang/invoke/VarHandle" ∧ (parseMethodDescriptor y.desc).map (fun d => d.parameters.length) = some n) (hn : As.length = n) (hR : fr + 1 ≤ (xR x).frames ∧ 8 + (maxL + 11) + lo ≤ (xR x).locals) (hst : S = As.reverse ++ .ref b :: st) (hcat : (st.map fun v => v.category).sum ≤ 8) (hc : vwCl[ci]? = some qC) (hC : qC.1 = C) (he : w[q0]? = some (b, .inr (ci, fs)))
    (hd : decode k.1 pc = .ok (.invokevirtual idx, 3)) (hcs : cs ≤ (xR x).cells ∧ ss ≤ (xR x).slots) (had : w'.map (·.1) = w.map (·.1)) (h : V x k cs ss w' pc' lv (r.toList ++ st)) : V x k cs ss w pc lv S :=
  v_callV (q0 := q0) [] w w' [] pc' hp hM hg hwy hdc hn hR hst hcat hc hC he hd hcs had (by simp) (by simpa using h)
/-- a static method that touches no cell -/
theorem v_callS {y : MethodName} {wsY wsr : List Cond} {fr lo maxL n idx : Nat} {bytes : ByteArray} {ret : Option FieldType} {As : List Value} {r : Option Value} {S : List Value} (pc' : Nat) (hp : pc + 3 = pc') (hM : KM (xD x) (xT x) (xl x) y wsY fr lo As [] r []) (hg : GoodIn (kT k) (va_wsS (kO k) idx y wsY)) (hwy : wsY = Cond.code y bytes maxL ret :: wsr)
    (hdc : y.cls ≠ "java/lang/invoke/MethodHandle" ∧ y.cls ≠ "java/lang/invoke/VarHandle" ∧ (parseMethodDescriptor y.desc).map (fun d => d.parameters.length) = some n) (hn : As.length = n) (hR : fr + 1 ≤ (xR x).frames ∧ 8 + (maxL + 11) + lo ≤ (xR x).locals) (hst : S = As.reverse ++ st) (hcat : (st.map fun v => v.category).sum ≤ 8)
    (hd : decode k.1 pc = .ok (.invokestatic idx, 3)) (hcs : cs ≤ (xR x).cells ∧ ss ≤ (xR x).slots) (h : V x k cs ss w pc' lv (r.toList ++ st)) : V x k cs ss w pc lv S := by
  subst hp
  subst hst
  intro p e s m args below meth c Z H locs ls hP hD hS hl
  have hPn : va_P (xD x) vwCl [] H := fun k q h => by simp at h
  have hDn : va_D (fun _ => True) [] := ⟨fun i j p q h => by simp at h, fun k q h => by simp at h⟩
  refine k_after (L := w) (wc := []) (wc' := []) (Rr := []) (va_runS (As := As) (rest := st) (n := n) ⟨Z.1, Z.2.1, Z.2.2.1, Z.2.2.2.1, Z.2.2.2.2.1⟩ (hM H.size) (va_cwS n Z.2.2.2.2.1 hg hwy rfl rfl hdc hR) ⟨KPre.blind, fun U hU hW => ⟨rfl, by rw [hU], by rw [hU]; exact hPn, va_K.moved hW.alike Z.2.2.2.2.2.1, NW.warm hW Z.2.2.2.2.2.2.1, hDn⟩⟩ rfl hn hl.1 rfl (lv_room hcat) hd hcs) (by simpa using hP) (by simpa using hD) hS (fun q hq => Or.inr hq) rfl (fun H1 locs1 hP1 hD1 hS1 => h p e s m args below meth c Z H1 locs1 ls (by simpa using hP1) (by simpa using hD1) hS1 hl)
/-- a static method over the caller's world -/
theorem v_callSF {y : MethodName} {wsY wsr : List Cond} {fr lo maxL n idx : Nat} {bytes : ByteArray} {ret : Option FieldType} {As : List Value} {r : Option Value} {w' : va_W} {S : List Value} (pc' : Nat) (hp : pc + 3 = pc') (hM : KM (xD x) (xT x) (xl x) y wsY fr lo As w r w') (hg : GoodIn (kT k) (va_wsS (kO k) idx y wsY)) (hwy : wsY = Cond.code y bytes maxL ret :: wsr)
    (hdc : y.cls ≠ "java/lang/invoke/MethodHandle" ∧ y.cls ≠ "java/lang/invoke/VarHandle" ∧ (parseMethodDescriptor y.desc).map (fun d => d.parameters.length) = some n) (hn : As.length = n) (hR : fr + 1 ≤ (xR x).frames ∧ 8 + (maxL + 11) + lo ≤ (xR x).locals) (hst : S = As.reverse ++ st) (hcat : (st.map fun v => v.category).sum ≤ 8)
    (hd : decode k.1 pc = .ok (.invokestatic idx, 3)) (hcs : cs ≤ (xR x).cells ∧ ss ≤ (xR x).slots) (had : w'.map (·.1) = w.map (·.1)) (h : V x k cs ss w' pc' lv (r.toList ++ st)) : V x k cs ss w pc lv S := by
  subst hp
  subst hst
  intro p e s m args below meth c Z H locs ls hP hD hS hl
  have hDc : va_D (fun _ => True) w := hD.weaken (fun _ _ _ _ => trivial)
  refine k_after (L := []) (wc := w) (wc' := w') (Rr := []) (va_runS (As := As) (rest := st) (n := n) ⟨Z.1, Z.2.1, Z.2.2.1, Z.2.2.2.1, Z.2.2.2.2.1⟩ (hM H.size) (va_cwS n Z.2.2.2.2.1 hg hwy rfl rfl hdc hR) ⟨KPre.blind, fun U hU hW => ⟨rfl, by rw [hU], by rw [hU]; exact hP, va_K.moved hW.alike Z.2.2.2.2.2.1, NW.warm hW Z.2.2.2.2.2.2.1, hDc⟩⟩ rfl hn hl.1 rfl (lv_room hcat) hd hcs) (by simpa using hP) (by simpa using hD) hS (fun q hq => Or.inr hq) had (fun H1 locs1 hP1 hD1 hS1 => h p e s m args below meth c Z H1 locs1 ls (by simpa using hP1) (by simpa using hD1) hS1 hl)
/-- the same, a private one of the nest's host -/
theorem v_callSN {y : MethodName} {wsY wsr : List Cond} {fr lo maxL n idx : Nat} {bytes : ByteArray} {ret : Option FieldType} {As : List Value} {r : Option Value} {S : List Value} (pc' : Nat) (hp : pc + 3 = pc') (hM : KM (xD x) (xT x) (xl x) y wsY fr lo As [] r []) (hg : GoodIn (kT k) wsY) (hwy : wsY = Cond.code y bytes maxL ret :: wsr) (hnw : (kO k, idx, y) ∈ nestM) (hin : Cond.initialized y.cls ∈ kT k) (hsta : Cond.static y ∈ kT k)
    (hdc : y.cls ≠ "java/lang/invoke/MethodHandle" ∧ y.cls ≠ "java/lang/invoke/VarHandle" ∧ (parseMethodDescriptor y.desc).map (fun d => d.parameters.length) = some n) (hn : As.length = n) (hR : fr + 1 ≤ (xR x).frames ∧ 8 + (maxL + 11) + lo ≤ (xR x).locals) (hst : S = As.reverse ++ st) (hcat : (st.map fun v => v.category).sum ≤ 8)
    (hd : decode k.1 pc = .ok (.invokestatic idx, 3)) (hcs : cs ≤ (xR x).cells ∧ ss ≤ (xR x).slots) (h : V x k cs ss w pc' lv (r.toList ++ st)) : V x k cs ss w pc lv S := by
  subst hp
  subst hst
  intro p e s m args below meth c Z H locs ls hP hD hS hl
  have hPn : va_P (xD x) vwCl [] H := fun k q h => by simp at h
  have hDn : va_D (fun _ => True) [] := ⟨fun i j p q h => by simp at h, fun k q h => by simp at h⟩
  refine k_after (L := w) (wc := []) (wc' := []) (Rr := []) (va_runSN (As := As) (rest := st) (n := n) ⟨Z.1, Z.2.1, Z.2.2.1, Z.2.2.2.1, Z.2.2.2.2.1⟩ (hM H.size) ⟨va_cnB n Z.2.2.2.2.1 hg hwy rfl rfl (Z.2.2.2.2.2.2.1.2 _ hnw) (Z.2.2.2.2.1 _ hin) hdc hR, Z.2.2.2.2.1 _ hsta, trivial⟩ ⟨KPre.blind, fun U hU hW => ⟨rfl, by rw [hU], by rw [hU]; exact hPn, va_K.moved hW.alike Z.2.2.2.2.2.1, NW.warm hW Z.2.2.2.2.2.2.1, hDn⟩⟩ rfl hn hl.1 rfl (lv_room hcat) hd hcs) (by simpa using hP) (by simpa using hD) hS (fun q hq => Or.inr hq) rfl (fun H1 locs1 hP1 hD1 hS1 => h p e s m args below meth c Z H1 locs1 ls (by simpa using hP1) (by simpa using hD1) hS1 hl)
end CALLS2
end
section
abbrev tyL (cI cZ cJ : ClassId) : List (ClassId × FieldType) := [(cI, .int), (cZ, .boolean), (cJ, .long)]
abbrev wC (ad : Nat → Nat) (cI cZ : ClassId) (tg : Nat → Int32) (fn : Nat → Int32) (ki : Nat → Int32) (nu : Nat → Int32) (fi : Nat → Int32) (se : Nat → Int32) (ju : Nat → Int32) (op : Nat → Int32) (en : Nat) (sm : Nat) (ob : Nat) (be : Nat → Int32) (af : Nat → Int32) (pl : Int32) (rf : Int32) (rp : Int32) (rs : Nat) (ra : Nat) (rb : Int32) (rl : Nat) : va_W := [(ad 0, .inr (4, [.ref (ad 1), .ref (ad 4), .ref (ad 11), .ref (ad 14)])), (ad 1, .inr (2, [.ref (ad 2), .ref (ad 3)])), (ad 2, .inl (cI, 96, .inl tg)), (ad 3, .inl (cZ, 24, .inl fn)), (ad 4, .inr (1, [.ref (ad 5), .ref (ad 6), .ref (ad 7), .ref (ad 8), .ref (ad 9), .ref (ad 10), .int (nI en), .int (nI sm), .int (nI ob)])), (ad 5, .inl (cI, 120, .inl ki)), (ad 6, .inl (cI, 120, .inl nu)), (ad 7, .inl (cI, 120, .inl fi)), (ad 8, .inl (cI, 120, .inl se)), (ad 9, .inl (cI, 120, .inl ju)), (ad 10, .inl (cI, 6, .inl op)), (ad 11, .inr (0, [.ref (ad 4), .ref (ad 1), .ref (ad 12), .ref (ad 13), .int pl])), (ad 12, .inl (cI, 40, .inl be)), (ad 13, .inl (cI, 40, .inl af)), (ad 14, .inr (3, [.ref (ad 4), .ref (ad 1), .int rf, .int rp, .int (nI rs), .int (nI ra), .int rb, .int (nI rl)]))]
abbrev wM (ad : Nat → Nat) (cI cZ : ClassId) (le : Nat → Int32) (la : Nat → Int32) (kd : Nat → Int32) (fs : Nat → Int32) (sc : Nat → Int32) (mi : Nat → Int32) (bh : Nat → Int32) (mz : Nat) (oo : Nat → Int32) (ie : Nat → Int32) (mo : Nat) (mp : Int32) (mf : Int32) (mq : Int32) (ms : Nat) (mt : Int32) (mc : Int32) (no : Nat → Int32) (lf : Nat → Int32) (he : Nat → Int32) (pi : Nat → Int32) (ot : Nat → Int32) (bf : Nat → Int32) (ar : Nat → Int32) (md : Nat) : va_W := [(ad 0, .inr (5, [.ref (ad 1), .ref (ad 2), .ref (ad 3), .ref (ad 4), .ref (ad 5), .ref (ad 6), .ref (ad 7), .int (nI mz), .ref (ad 8), .ref (ad 9), .int (nI mo), .int mp, .int mf, .int mq, .int (nI ms), .int mt, .int mc, .ref (ad 10), .ref (ad 11), .ref (ad 12), .ref (ad 13), .ref (ad 14), .ref (ad 15), .ref (ad 16), .int (nI md)])), (ad 1, .inl (cI, 60, .inl le)), (ad 2, .inl (cZ, 15, .inl la)), (ad 3, .inl (cI, 40, .inl kd)), (ad 4, .inl (cI, 40, .inl fs)), (ad 5, .inl (cI, 40, .inl sc)), (ad 6, .inl (cI, 40, .inl mi)), (ad 7, .inl (cI, 40, .inl bh)), (ad 8, .inl (cI, 6, .inl oo)), (ad 9, .inl (cZ, 6, .inl ie)), (ad 10, .inl (cI, 4, .inl no)), (ad 11, .inl (cI, 4, .inl lf)), (ad 12, .inl (cI, 160, .inl he)), (ad 13, .inl (cI, 6, .inl pi)), (ad 14, .inl (cZ, 6, .inl ot)), (ad 15, .inl (cI, 24, .inl bf)), (ad 16, .inl (cI, 24, .inl ar))]
def bel (a b : Int32) : Bool := !decide (a < 0) && !decide (b ≤ a)
def wth (a b : Int32) : Bool := !decide (a < 0) && !decide (b < a)
def oI (n : Nat) : Int32 := nI n - nI 1
theorem bel_N {a b : Nat} (ha : a < 2 ^ 31) (hb : b < 2 ^ 31) : bel (nI a) (nI b) = decide (a < b) := by
  simp only [bel, nI_leI hb ha, nI_pos ha, decide_false, Bool.not_false, Bool.true_and]
  by_cases h : a < b
  · simp [h]
  · simp [h, Nat.not_lt.mp h]
theorem bel_t {x : Int32} {b : Nat} (hb : b < 2 ^ 31) (h : bel x (nI b) = true) : ∃ j : Nat, j < b ∧ x = nI j := by
  simp only [bel, Bool.and_eq_true, Bool.not_eq_true', decide_eq_false_iff_not] at h
  obtain ⟨j, hj, rfl⟩ := nI_of h.1
  exact ⟨j, by have := h.2; rw [nI_leI hb hj] at this; omega, rfl⟩
theorem bel_m1 {b : Nat} : bel (-1) (nI b) = false := by simp [bel]
theorem oI_0 : oI 0 = -1 := by decide
theorem oI_s (n : Nat) : oI (n + 1) = nI n := nI_pred n
theorem oI_p {n : Nat} (h : 0 < n) : oI n = nI (n - 1) := by obtain ⟨k, rfl⟩ : ∃ k, n = k + 1 := ⟨n - 1, by omega⟩; exact oI_s k
theorem oI_add (n : Nat) : oI n + nI 1 = nI n := by simp [oI, Int32.sub_add_cancel]
theorem oI_inj {a b : Nat} (ha : a < 2 ^ 31) (hb : b < 2 ^ 31) (h : oI a = oI b) : a = b := by
  have := congrArg (· + nI 1) h
  simp only [oI_add] at this
  exact (nI_eq ha hb).mp this
theorem nI_ne_m1 {n : Nat} (h : n < 2 ^ 31) : nI n ≠ -1 := fun z => by
  have := nI_pos (n := n) h
  rw [z] at this
  exact this (by decide)
end
section
/-- what variable v holds in the packed number A: 0 nothing, else the object and 1 -/
def hb (A v : Nat) : Nat := A / 2 ^ (5 * v) % 32
/-- variable v is made to hold n -/
def wh (A v n : Nat) : Nat := A - hb A v * 2 ^ (5 * v) + n * 2 ^ (5 * v)
theorem hb_lt (A v : Nat) : hb A v < 32 := Nat.mod_lt _ (by decide)
theorem sh_u : ∀ v, v < 4 → (((nI (5 * v)).toUInt32 &&& Int32.toUInt32 31).toBitVec % 32).toNat = 5 * v := by decide
theorem sh_s : ∀ v, v < 4 → ((nI (5 * v) &&& 31).toBitVec.smod 32).toNat = 5 * v := by decide
theorem hb_raw {A v : Nat} (hA : A < 2 ^ 20) (hv : v < 4) : ((nI A).toUInt32 >>> ((nI (5 * v)).toUInt32 &&& Int32.toUInt32 31)).toInt32 = nI (A / 2 ^ (5 * v)) := pk_ushrN (by omega) _ _ (sh_u v hv)
theorem hb_and {A v : Nat} (hA : A < 2 ^ 20) : nI (A / 2 ^ (5 * v)) &&& nI 31 = nI (hb A v) := pk_andN (by have := Nat.div_le_self A (2 ^ (5 * v)); omega) 5 (by decide)
theorem wh_lt {A v n : Nat} (hA : A < 2 ^ 20) (hv : v < 4) (hn : n < 32) : wh A v n < 2 ^ 20 := by
  unfold wh hb
  rcases (show v = 0 ∨ v = 1 ∨ v = 2 ∨ v = 3 by omega) with rfl | rfl | rfl | rfl <;> simp <;> omega
theorem hb_wh_same {A v n : Nat} (hA : A < 2 ^ 20) (hv : v < 4) (hn : n < 32) : hb (wh A v n) v = n := by
  unfold wh hb
  rcases (show v = 0 ∨ v = 1 ∨ v = 2 ∨ v = 3 by omega) with rfl | rfl | rfl | rfl <;> simp <;> omega
theorem hb_wh_ne {A v u n : Nat} (hA : A < 2 ^ 20) (hv : v < 4) (hu : u < 4) (hn : n < 32) (hne : u ≠ v) : hb (wh A v n) u = hb A u := by
  unfold wh hb
  rcases (show v = 0 ∨ v = 1 ∨ v = 2 ∨ v = 3 by omega) with rfl | rfl | rfl | rfl <;> rcases (show u = 0 ∨ u = 1 ∨ u = 2 ∨ u = 3 by omega) with rfl | rfl | rfl | rfl <;> first | exact absurd rfl hne | (simp; omega)
theorem hb_ext {A B : Nat} (hA : A < 2 ^ 20) (hB : B < 2 ^ 20) (h : ∀ v, v < 4 → hb A v = hb B v) : A = B := by
  have h0 := h 0 (by omega); have h1 := h 1 (by omega); have h2 := h 2 (by omega); have h3 := h 3 (by omega)
  simp [hb] at h0 h1 h2 h3
  omega
theorem hb_zero (v : Nat) : hb 0 v = 0 := by simp [hb]
theorem and_split {k a b c e : Nat} (hb : b < 2 ^ k) (he : e < 2 ^ k) : (2 ^ k * a + b) &&& (2 ^ k * c + e) = 2 ^ k * (a &&& c) + (b &&& e) := by
  apply Nat.eq_of_testBit_eq
  intro j
  rw [Nat.testBit_and, Nat.testBit_two_pow_mul_add _ hb, Nat.testBit_two_pow_mul_add _ he, Nat.testBit_two_pow_mul_add _ (Nat.lt_of_le_of_lt Nat.and_le_left hb)]
  by_cases h : j < k <;> simp [h, Nat.testBit_and]
theorem or_split {k a b c e : Nat} (hb : b < 2 ^ k) (he : e < 2 ^ k) : (2 ^ k * a + b) ||| (2 ^ k * c + e) = 2 ^ k * (a ||| c) + (b ||| e) := by
  apply Nat.eq_of_testBit_eq
  intro j
  rw [Nat.testBit_or, Nat.testBit_two_pow_mul_add _ hb, Nat.testBit_two_pow_mul_add _ he, Nat.testBit_two_pow_mul_add _ (Nat.or_lt_two_pow hb he)]
  by_cases h : j < k <;> simp [h, Nat.testBit_or]
theorem wh_bits {hi d lo n p k MH : Nat} (hlo : lo < 2 ^ p) (hd : d < 2 ^ 5) (hn : n < 2 ^ 5) (hM : MH = 2 ^ k - 1) (hhi : hi < 2 ^ k) : ((2 ^ p * (2 ^ 5 * hi + d) + lo) &&& (2 ^ p * (2 ^ 5 * MH + 0) + (2 ^ p - 1))) ||| (2 ^ p * (2 ^ 5 * 0 + n) + 0) = 2 ^ p * (2 ^ 5 * hi + n) + lo := by
  have hp : 2 ^ p - 1 < 2 ^ p := by have := Nat.pow_pos (n := p) (show 0 < 2 by decide); omega
  have h0 : 0 < 2 ^ p := Nat.pow_pos (by decide)
  rw [and_split hlo hp, and_split hd (by decide), hM, Nat.and_two_pow_sub_one_eq_mod, Nat.and_two_pow_sub_one_eq_mod, Nat.mod_eq_of_lt hlo, Nat.mod_eq_of_lt hhi, or_split hlo h0, or_split (by rw [Nat.and_zero]; decide) hn]
  simp
theorem nx_and2 (a b : Nat) : nI a &&& nI b = nI (a &&& b) := by
  apply Int32.toBitVec_inj.mp
  simp [nI, BitVec.ofNat_and]
theorem nx_or2 (a b : Nat) : nI a ||| nI b = nI (a ||| b) := by
  apply Int32.toBitVec_inj.mp
  simp [nI, BitVec.ofNat_or]
theorem m_c : ∀ v, v < 4 → (nI 31 <<< (nI (5 * v) &&& 31)) ^^^ (-1) = nI (2 ^ (5 * v) * (2 ^ 5 * (2 ^ (27 - 5 * v) - 1) + 0) + (2 ^ (5 * v) - 1)) := by decide
theorem wh_raw {A v n : Nat} (hA : A < 2 ^ 20) (hv : v < 4) (hn : n < 32) : (nI A &&& ((nI 31 <<< (nI (5 * v) &&& 31)) ^^^ (-1))) ||| (nI n <<< (nI (5 * v) &&& 31)) = nI (wh A v n) := by
  rw [m_c v hv, pk_shlN (nI (5 * v) &&& 31) (5 * v) (sh_s v hv) (by rcases (show v = 0 ∨ v = 1 ∨ v = 2 ∨ v = 3 by omega) with rfl | rfl | rfl | rfl <;> simp <;> omega), nx_and2, nx_or2]
  congr 1
  have e1 : A = 2 ^ (5 * v) * (2 ^ 5 * (A / 2 ^ (5 * v) / 32) + A / 2 ^ (5 * v) % 32) + A % 2 ^ (5 * v) := by
    have a1 := Nat.div_add_mod A (2 ^ (5 * v))
    have a2 := Nat.div_add_mod (A / 2 ^ (5 * v)) 32
    rw [show (2 : Nat) ^ 5 = 32 from rfl, a2, a1]
  have e2 : n * 2 ^ (5 * v) = 2 ^ (5 * v) * (2 ^ 5 * 0 + n) + 0 := by simp [Nat.mul_comm]
  have hw := wh_bits (hi := A / 2 ^ (5 * v) / 32) (d := A / 2 ^ (5 * v) % 32) (lo := A % 2 ^ (5 * v)) (n := n) (p := 5 * v) (k := 27 - 5 * v) (MH := 2 ^ (27 - 5 * v) - 1) (Nat.mod_lt _ (Nat.pow_pos (by decide))) (Nat.mod_lt _ (by decide)) hn rfl (by rcases (show v = 0 ∨ v = 1 ∨ v = 2 ∨ v = 3 by omega) with rfl | rfl | rfl | rfl <;> simp <;> omega)
  rw [← e1, ← e2] at hw
  rw [hw]
  unfold wh hb
  rcases (show v = 0 ∨ v = 1 ∨ v = 2 ∨ v = 3 by omega) with rfl | rfl | rfl | rfl <;> simp <;> omega
end
section
set_option maxRecDepth 100000 in
set_option maxHeartbeats 4000000 in
theorem c_isBelow {D : va_G} {cI cZ cJ : ClassId} {l : Launch} (a b : Int32) : KM D (tyL cI cZ cJ) l yX4_isBelow wsX4_isBelow 0 0 [.int a, .int b] ([]) (some (.int (bI (bel a b)))) ([]) := by
  refine KM.of (cc := cX4_isBelow) (nL := 2) (ret := (some .boolean)) (by decide +kernel) rfl (Nat.le_of_ble_eq_true rfl) ?_
  refine v_iload_n 1 rfl dX4_isBelow_0 rfl rfl ?_
  refine v_if_lt 13 4 rfl dX4_isBelow_1 (by decide) (fun c1 => ?_) (fun c1 => ?_)
  · refine v_iconst (v := nI 0) 14 rfl dX4_isBelow_13 (by decide) ?_
    refine v_top (v' := bI false) (by decide) ?_
    exact v_zret dX4_isBelow_14 rfl (by simp [bel, *]) rfl
  · refine v_iload_n 5 rfl dX4_isBelow_4 rfl rfl ?_
    refine v_iload_n 6 rfl dX4_isBelow_5 rfl rfl ?_
    refine v_icmp_ge 13 9 rfl dX4_isBelow_6 (by decide) (fun c6 => ?_) (fun c6 => ?_)
    · refine v_iconst (v := nI 0) 14 rfl dX4_isBelow_13 (by decide) ?_
      refine v_top (v' := bI false) (by decide) ?_
      exact v_zret dX4_isBelow_14 rfl (by simp [bel, *]) rfl
    · refine v_iconst (v := nI 1) 10 rfl dX4_isBelow_9 (by decide) ?_
      refine v_goto 14 dX4_isBelow_10 (by decide) ?_
      refine v_top (v' := bI true) (by decide) ?_
      exact v_zret dX4_isBelow_14 rfl (by simp [bel, *]) rfl

theorem c_isBelowT {D : va_G} {cI cZ cJ : ClassId} {l : Launch} (a b : Nat) (hb : b < 2 ^ 31) (h : a < b) : KM D (tyL cI cZ cJ) l yX4_isBelow wsX4_isBelow 0 0 [.int (nI a), .int (nI b)] [] (some (.int (bI true))) [] := by
  have := c_isBelow (D := D) (cI := cI) (cZ := cZ) (cJ := cJ) (l := l) (nI a) (nI b)
  rw [bel_N (by omega) hb, decide_eq_true h] at this
  exact this
theorem c_isBelowF {D : va_G} {cI cZ cJ : ClassId} {l : Launch} (a b : Nat) (ha : a < 2 ^ 31) (h : b ≤ a) : KM D (tyL cI cZ cJ) l yX4_isBelow wsX4_isBelow 0 0 [.int (nI a), .int (nI b)] [] (some (.int (bI false))) [] := by
  have := c_isBelow (D := D) (cI := cI) (cZ := cZ) (cJ := cJ) (l := l) (nI a) (nI b)
  rw [bel_N ha (by omega), decide_eq_false (Nat.not_lt.mpr h)] at this
  exact this

set_option maxRecDepth 100000 in
set_option maxHeartbeats 4000000 in
theorem c_isVariable {D : va_G} {cI cZ cJ : ClassId} {l : Launch} (a : Int32) : KM D (tyL cI cZ cJ) l yX4_isVariable wsX4_isVariable 1 21 [.int a] ([]) (some (.int (bI (bel a (nI 4))))) ([]) := by
  refine KM.of (cc := cX4_isVariable) (nL := 1) (ret := (some .boolean)) (by decide +kernel) rfl (Nat.le_of_ble_eq_true rfl) ?_
  refine v_iload_n 1 rfl dX4_isVariable_0 rfl rfl ?_
  refine v_iconst (v := nI 4) 2 rfl dX4_isVariable_1 (by decide) ?_
  refine v_callS (n := 2) 5 rfl (c_isBelow a (nI 4)) gX4_isVariable_X4_isBelow rfl (by decide +kernel) rfl ⟨(Nat.le_of_ble_eq_true rfl), (Nat.le_of_ble_eq_true rfl)⟩ rfl (Nat.le_of_ble_eq_true rfl) dX4_isVariable_2 ⟨Nat.zero_le _, Nat.zero_le _⟩ ?_
  refine v_st (st' := [.int (bI (bel a (nI 4)))]) rfl ?_
  exact v_zret dX4_isVariable_5 rfl rfl rfl

set_option maxRecDepth 100000 in
set_option maxHeartbeats 4000000 in
theorem c_isVariableT {D : va_G} {cI cZ cJ : ClassId} {l : Launch} (a : Nat) (h : a < 4) : KM D (tyL cI cZ cJ) l yX4_isVariable wsX4_isVariable 1 21 [.int (nI a)] ([]) (some (.int (bI true))) ([]) := by
  refine KM.of (cc := cX4_isVariable) (nL := 1) (ret := (some .boolean)) (by decide +kernel) rfl (Nat.le_of_ble_eq_true rfl) ?_
  refine v_iload_n 1 rfl dX4_isVariable_0 rfl rfl ?_
  refine v_iconst (v := nI 4) 2 rfl dX4_isVariable_1 (by decide) ?_
  refine v_callS (n := 2) 5 rfl (c_isBelowT a 4 (by omega) (by omega)) gX4_isVariable_X4_isBelow rfl (by decide +kernel) rfl ⟨(Nat.le_of_ble_eq_true rfl), (Nat.le_of_ble_eq_true rfl)⟩ rfl (Nat.le_of_ble_eq_true rfl) dX4_isVariable_2 ⟨Nat.zero_le _, Nat.zero_le _⟩ ?_
  refine v_st (st' := [.int (bI true)]) rfl ?_
  exact v_zret dX4_isVariable_5 rfl rfl rfl

set_option maxRecDepth 100000 in
set_option maxHeartbeats 4000000 in
theorem c_isState {D : va_G} {cI cZ cJ : ClassId} {l : Launch} (a b : Int32) : KM D (tyL cI cZ cJ) l yX4_isState wsX4_isState 1 21 [.int a, .int b] ([]) (some (.int (bI (bel a (nI 3) && bel b (nI 5))))) ([]) := by
  refine KM.of (cc := cX4_isState) (nL := 2) (ret := (some .boolean)) (by decide +kernel) rfl (Nat.le_of_ble_eq_true rfl) ?_
  refine v_iload_n 1 rfl dX4_isState_0 rfl rfl ?_
  refine v_iconst (v := nI 3) 2 rfl dX4_isState_1 (by decide) ?_
  refine v_callS (n := 2) 5 rfl (c_isBelow a (nI 3)) gX4_isState_X4_isBelow rfl (by decide +kernel) rfl ⟨(Nat.le_of_ble_eq_true rfl), (Nat.le_of_ble_eq_true rfl)⟩ rfl (Nat.le_of_ble_eq_true rfl) dX4_isState_2 ⟨Nat.zero_le _, Nat.zero_le _⟩ ?_
  refine v_st (st' := [.int (bI (bel a (nI 3)))]) rfl ?_
  refine v_if_eqB (b := bel a (nI 3)) 20 8 rfl dX4_isState_5 (by decide) (fun c5 => ?_) (fun c5 => ?_)
  · refine v_iconst (v := nI 0) 21 rfl dX4_isState_20 (by decide) ?_
    refine v_top (v' := bI false) (by decide) ?_
    exact v_zret dX4_isState_21 rfl (by simp [*]) rfl
  · refine v_iload_n 9 rfl dX4_isState_8 rfl rfl ?_
    refine v_iconst (v := nI 5) 10 rfl dX4_isState_9 (by decide) ?_
    refine v_callS (n := 2) 13 rfl (c_isBelow b (nI 5)) gX4_isState_X4_isBelow rfl (by decide +kernel) rfl ⟨(Nat.le_of_ble_eq_true rfl), (Nat.le_of_ble_eq_true rfl)⟩ rfl (Nat.le_of_ble_eq_true rfl) dX4_isState_10 ⟨Nat.zero_le _, Nat.zero_le _⟩ ?_
    refine v_st (st' := [.int (bI (bel b (nI 5)))]) rfl ?_
    refine v_if_eqB (b := bel b (nI 5)) 20 16 rfl dX4_isState_13 (by decide) (fun c13 => ?_) (fun c13 => ?_)
    · refine v_iconst (v := nI 0) 21 rfl dX4_isState_20 (by decide) ?_
      refine v_top (v' := bI false) (by decide) ?_
      exact v_zret dX4_isState_21 rfl (by simp [*]) rfl
    · refine v_iconst (v := nI 1) 17 rfl dX4_isState_16 (by decide) ?_
      refine v_goto 21 dX4_isState_17 (by decide) ?_
      refine v_top (v' := bI true) (by decide) ?_
      exact v_zret dX4_isState_21 rfl (by simp [*]) rfl

set_option maxRecDepth 100000 in
set_option maxHeartbeats 4000000 in
theorem c_isStateT {D : va_G} {cI cZ cJ : ClassId} {l : Launch} (a b : Nat) (ha : a < 3) (hb : b < 5) : KM D (tyL cI cZ cJ) l yX4_isState wsX4_isState 1 21 [.int (nI a), .int (nI b)] ([]) (some (.int (bI true))) ([]) := by
  refine KM.of (cc := cX4_isState) (nL := 2) (ret := (some .boolean)) (by decide +kernel) rfl (Nat.le_of_ble_eq_true rfl) ?_
  refine v_iload_n 1 rfl dX4_isState_0 rfl rfl ?_
  refine v_iconst (v := nI 3) 2 rfl dX4_isState_1 (by decide) ?_
  refine v_callS (n := 2) 5 rfl (c_isBelowT a 3 (by omega) (by omega)) gX4_isState_X4_isBelow rfl (by decide +kernel) rfl ⟨(Nat.le_of_ble_eq_true rfl), (Nat.le_of_ble_eq_true rfl)⟩ rfl (Nat.le_of_ble_eq_true rfl) dX4_isState_2 ⟨Nat.zero_le _, Nat.zero_le _⟩ ?_
  refine v_st (st' := [.int (bI true)]) rfl ?_
  refine v_if_eqB (b := true) 20 8 rfl dX4_isState_5 (by decide) (fun q => False.elim (by cases q)) (fun c5 => ?_)
  refine v_iload_n 9 rfl dX4_isState_8 rfl rfl ?_
  refine v_iconst (v := nI 5) 10 rfl dX4_isState_9 (by decide) ?_
  refine v_callS (n := 2) 13 rfl (c_isBelowT b 5 (by omega) (by omega)) gX4_isState_X4_isBelow rfl (by decide +kernel) rfl ⟨(Nat.le_of_ble_eq_true rfl), (Nat.le_of_ble_eq_true rfl)⟩ rfl (Nat.le_of_ble_eq_true rfl) dX4_isState_10 ⟨Nat.zero_le _, Nat.zero_le _⟩ ?_
  refine v_st (st' := [.int (bI true)]) rfl ?_
  refine v_if_eqB (b := true) 20 16 rfl dX4_isState_13 (by decide) (fun q => False.elim (by cases q)) (fun c13 => ?_)
  refine v_iconst (v := nI 1) 17 rfl dX4_isState_16 (by decide) ?_
  refine v_goto 21 dX4_isState_17 (by decide) ?_
  refine v_top (v' := bI true) (by decide) ?_
  exact v_zret dX4_isState_21 rfl rfl rfl

set_option maxRecDepth 100000 in
set_option maxHeartbeats 4000000 in
theorem c_objectOf {D : va_G} {cI cZ cJ : ClassId} {l : Launch} (a b : Nat) : KM D (tyL cI cZ cJ) l yX4_objectOf wsX4_objectOf 0 0 [.int (nI a), .int (nI b)] ([]) (some (.int (nI (8 * a + b)))) ([]) := by
  refine KM.of (cc := cX4_objectOf) (nL := 2) (ret := (some .int)) (by decide +kernel) rfl (Nat.le_of_ble_eq_true rfl) ?_
  refine v_bipush (v := nI 8) 2 rfl dX4_objectOf_0 (by decide) ?_
  refine v_iload_n 3 rfl dX4_objectOf_2 rfl rfl ?_
  refine v_imulN (a := 8) (b := a) 4 rfl dX4_objectOf_3 ?_
  refine v_iload_n 5 rfl dX4_objectOf_4 rfl rfl ?_
  refine v_iaddN (a := 8 * a) (b := b) 6 rfl dX4_objectOf_5 ?_
  exact v_iret dX4_objectOf_6 rfl rfl rfl

set_option maxRecDepth 100000 in
set_option maxHeartbeats 4000000 in
theorem c_protocolOf {D : va_G} {cI cZ cJ : ClassId} {l : Launch} (a : Nat) (ha : a < 2 ^ 31) : KM D (tyL cI cZ cJ) l yX4_protocolOf wsX4_protocolOf 0 0 [.int (nI a)] ([]) (some (.int (nI (a / 8)))) ([]) := by
  refine KM.of (cc := cX4_protocolOf) (nL := 1) (ret := (some .int)) (by decide +kernel) rfl (Nat.le_of_ble_eq_true rfl) ?_
  refine v_iload_n 1 rfl dX4_protocolOf_0 rfl rfl ?_
  refine v_iconst (v := nI 3) 2 rfl dX4_protocolOf_1 (by decide) ?_
  refine v_ishr 3 rfl dX4_protocolOf_2 ?_
  refine v_top (v' := nI (a / 8)) (pk_shrN ha _ 3 (by decide)) ?_
  exact v_iret dX4_protocolOf_3 rfl rfl rfl

set_option maxRecDepth 100000 in
set_option maxHeartbeats 4000000 in
theorem c_heldBy {D : va_G} {cI cZ cJ : ClassId} {l : Launch} (A v : Nat) (hA : A < 2 ^ 20) (hv : v < 4) : KM D (tyL cI cZ cJ) l yX4_heldBy wsX4_heldBy 0 0 [.int (nI A), .int (nI v)] ([]) (some (.int (oI (hb A v)))) ([]) := by
  refine KM.of (cc := cX4_heldBy) (nL := 2) (ret := (some .int)) (by decide +kernel) rfl (Nat.le_of_ble_eq_true rfl) ?_
  refine v_iload_n 1 rfl dX4_heldBy_0 rfl rfl ?_
  refine v_iconst (v := nI 5) 2 rfl dX4_heldBy_1 (by decide) ?_
  refine v_iload_n 3 rfl dX4_heldBy_2 rfl rfl ?_
  refine v_imulN (a := 5) (b := v) 4 rfl dX4_heldBy_3 ?_
  refine v_iushr (v := nI (A / 2 ^ (5 * v))) 5 rfl dX4_heldBy_4 (hb_raw hA hv) ?_
  refine v_bipush (v := nI 31) 7 rfl dX4_heldBy_5 (by decide) ?_
  refine v_iand 8 rfl dX4_heldBy_7 ?_
  refine v_top (v' := nI (hb A v)) (hb_and hA) ?_
  refine v_iconst (v := nI 1) 9 rfl dX4_heldBy_8 (by decide) ?_
  refine v_isub 10 rfl dX4_heldBy_9  ?_
  exact v_iret dX4_heldBy_10 rfl rfl rfl

set_option maxRecDepth 100000 in
set_option maxHeartbeats 4000000 in
theorem c_withHeld {D : va_G} {cI cZ cJ : ClassId} {l : Launch} (A v n : Nat) (hA : A < 2 ^ 20) (hv : v < 4) (hn : n < 32) : KM D (tyL cI cZ cJ) l yX4_withHeld wsX4_withHeld 0 0 [.int (nI A), .int (nI v), .int (oI n)] ([]) (some (.int (nI (wh A v n)))) ([]) := by
  refine KM.of (cc := cX4_withHeld) (nL := 4) (ret := (some .int)) (by decide +kernel) rfl (Nat.le_of_ble_eq_true rfl) ?_
  refine v_iconst (v := nI 5) 1 rfl dX4_withHeld_0 (by decide) ?_
  refine v_iload_n 2 rfl dX4_withHeld_1 rfl rfl ?_
  refine v_imulN (a := 5) (b := v) 3 rfl dX4_withHeld_2 ?_
  refine v_istore_n (lv' := [(3, .int (nI (5 * v))), (0, .int (nI A)), (1, .int (nI v)), (2, .int (oI n))]) 4 rfl dX4_withHeld_3 rfl (Nat.le_of_ble_eq_true rfl) rfl ?_
  refine v_iload_n 5 rfl dX4_withHeld_4 rfl rfl ?_
  refine v_bipush (v := nI 31) 7 rfl dX4_withHeld_5 (by decide) ?_
  refine v_iload_n 8 rfl dX4_withHeld_7 rfl rfl ?_
  refine v_ishl 9 rfl dX4_withHeld_8 ?_
  refine v_iconst (v := -1) 10 rfl dX4_withHeld_9 (by decide) ?_
  refine v_ixor 11 rfl dX4_withHeld_10 ?_
  refine v_iand 12 rfl dX4_withHeld_11 ?_
  refine v_iload_n 13 rfl dX4_withHeld_12 rfl rfl ?_
  refine v_iconst (v := nI 1) 14 rfl dX4_withHeld_13 (by decide) ?_
  refine v_iadd 15 rfl dX4_withHeld_14  ?_
  refine v_top (v' := nI n) (oI_add n) ?_
  refine v_iload_n 16 rfl dX4_withHeld_15 rfl rfl ?_
  refine v_ishl 17 rfl dX4_withHeld_16 ?_
  refine v_ior 18 rfl dX4_withHeld_17 ?_
  refine v_top (v' := nI (wh A v n)) (wh_raw hA hv hn) ?_
  exact v_iret dX4_withHeld_18 rfl rfl rfl

set_option maxRecDepth 100000 in
set_option maxHeartbeats 4000000 in
theorem c_setTarget {D : va_G} {cI cZ cJ : ClassId} {l : Launch} {ad : Nat → Nat} {tg : Nat → Int32} {fn : Nat → Int32} {ki : Nat → Int32} {nu : Nat → Int32} {fi : Nat → Int32} {se : Nat → Int32} {ju : Nat → Int32} {op : Nat → Int32} {en : Nat} {sm : Nat} {ob : Nat} {be : Nat → Int32} {af : Nat → Int32} {pl : Int32} {rf : Int32} {rp : Int32} {rs : Nat} {ra : Nat} {rb : Int32} {rl : Nat} (o e : Nat) (t : Int32) (ho : o < 24) (he : e < 4) : KM D (tyL cI cZ cJ) l yX2_setTarget wsX2_setTarget 1 21 [.ref (ad 1), .int (nI o), .int (nI e), .int t] (wC ad cI cZ tg fn ki nu fi se ju op en sm ob be af pl rf rp rs ra rb rl) (some (.int (bI true))) (wC ad cI cZ (upd tg (o * 4 + e) t) fn ki nu fi se ju op en sm ob be af pl rf rp rs ra rb rl) := by
  refine KM.of (cc := cX2_setTarget) (nL := 5) (ret := (some .boolean)) (by decide +kernel) rfl (Nat.le_of_ble_eq_true rfl) ?_
  have i2 : ∀ w ∈ u_ws RX2 TX2 2, w ∈ wsX2_setTarget := by decide +kernel
  refine v_iload_n 1 rfl dX2_setTarget_0 rfl rfl ?_
  refine v_bipush (v := nI 24) 3 rfl dX2_setTarget_1 (by decide) ?_
  refine v_callSN (n := 2) 6 rfl (c_isBelowT o 24 (by omega) (by omega)) gX2_setTarget_X4_isBelow_n25 rfl (by decide +kernel) (by decide +kernel) (by decide +kernel) (by decide +kernel) rfl ⟨(Nat.le_of_ble_eq_true rfl), (Nat.le_of_ble_eq_true rfl)⟩ rfl (Nat.le_of_ble_eq_true rfl) dX2_setTarget_3 ⟨Nat.zero_le _, Nat.zero_le _⟩ ?_
  refine v_st (st' := [.int (bI true)]) rfl ?_
  refine v_if_eqB (b := true) 21 9 rfl dX2_setTarget_6 (by decide) (fun q => False.elim (by cases q)) (fun c6 => ?_)
  refine v_iload_n 10 rfl dX2_setTarget_9 rfl rfl ?_
  refine v_iconst (v := nI 4) 11 rfl dX2_setTarget_10 (by decide) ?_
  refine v_callSN (n := 2) 14 rfl (c_isBelowT e 4 (by omega) (by omega)) gX2_setTarget_X4_isBelow_n25 rfl (by decide +kernel) (by decide +kernel) (by decide +kernel) (by decide +kernel) rfl ⟨(Nat.le_of_ble_eq_true rfl), (Nat.le_of_ble_eq_true rfl)⟩ rfl (Nat.le_of_ble_eq_true rfl) dX2_setTarget_11 ⟨Nat.zero_le _, Nat.zero_le _⟩ ?_
  refine v_st (st' := [.int (bI true)]) rfl ?_
  refine v_if_eqB (b := true) 21 17 rfl dX2_setTarget_14 (by decide) (fun q => False.elim (by cases q)) (fun c14 => ?_)
  refine v_iconst (v := bI true) 18 rfl dX2_setTarget_17 (by decide) ?_
  refine v_goto 22 dX2_setTarget_18 (by decide) ?_
  refine v_istore (lv' := [(4, .int (bI true)), (0, .ref (ad 1)), (1, .int (nI o)), (2, .int (nI e)), (3, .int t)]) 24 rfl dX2_setTarget_22 (Nat.le_of_ble_eq_true rfl) rfl ?_
  refine v_iload 26 rfl dX2_setTarget_24 rfl ?_
  refine v_if_eqB (b := true) 40 29 rfl dX2_setTarget_26 (by decide) (fun q => False.elim (by cases q)) (fun c26 => ?_)
  refine v_aload_n 30 rfl dX2_setTarget_29 rfl rfl ?_
  refine v_get (ci := 2) (C := RX2) (T := TX2) (N := 2) (v := .ref (ad 2)) 33 rfl 1 0 dX2_setTarget_30 rfl (Nat.le_of_ble_eq_true rfl) i2 (by decide +kernel) rfl rfl ?_
  refine v_iload_n 34 rfl dX2_setTarget_33 rfl rfl ?_
  refine v_iconst (v := nI 4) 35 rfl dX2_setTarget_34 (by decide) ?_
  refine v_imulN (a := o) (b := 4) 36 rfl dX2_setTarget_35 ?_
  refine v_iload_n 37 rfl dX2_setTarget_36 rfl rfl ?_
  refine v_iaddN (a := o * 4) (b := e) 38 rfl dX2_setTarget_37 ?_
  refine v_iload_n 39 rfl dX2_setTarget_38 rfl rfl ?_
  refine v_iast (j := (o * 4) + e) (w' := wC ad cI cZ (upd tg ((o * 4) + e) t) fn ki nu fi se ju op en sm ob be af pl rf rp rs ra rb rl) 40 rfl 2 0 dX2_setTarget_39 rfl rfl (by omega) (by decide) rfl ?_
  refine v_iload 42 rfl dX2_setTarget_40 rfl ?_
  exact v_zret dX2_setTarget_42 rfl rfl rfl

set_option maxRecDepth 100000 in
set_option maxHeartbeats 4000000 in
theorem c_setFinal {D : va_G} {cI cZ cJ : ClassId} {l : Launch} {ad : Nat → Nat} {tg : Nat → Int32} {fn : Nat → Int32} {ki : Nat → Int32} {nu : Nat → Int32} {fi : Nat → Int32} {se : Nat → Int32} {ju : Nat → Int32} {op : Nat → Int32} {en : Nat} {sm : Nat} {ob : Nat} {be : Nat → Int32} {af : Nat → Int32} {pl : Int32} {rf : Int32} {rp : Int32} {rs : Nat} {ra : Nat} {rb : Int32} {rl : Nat} (o : Nat) (b : Bool) (ho : o < 24) : KM D (tyL cI cZ cJ) l yX2_setFinal wsX2_setFinal 1 21 [.ref (ad 1), .int (nI o), .int (bI b)] (wC ad cI cZ tg fn ki nu fi se ju op en sm ob be af pl rf rp rs ra rb rl) (some (.int (bI true))) (wC ad cI cZ tg (upd fn o (bI b)) ki nu fi se ju op en sm ob be af pl rf rp rs ra rb rl) := by
  refine KM.of (cc := cX2_setFinal) (nL := 4) (ret := (some .boolean)) (by decide +kernel) rfl (Nat.le_of_ble_eq_true rfl) ?_
  have i2 : ∀ w ∈ u_ws RX2 TX2 2, w ∈ wsX2_setFinal := by decide +kernel
  refine v_iload_n 1 rfl dX2_setFinal_0 rfl rfl ?_
  refine v_bipush (v := nI 24) 3 rfl dX2_setFinal_1 (by decide) ?_
  refine v_callSN (n := 2) 6 rfl (c_isBelowT o 24 (by omega) (by omega)) gX2_setFinal_X4_isBelow_n25 rfl (by decide +kernel) (by decide +kernel) (by decide +kernel) (by decide +kernel) rfl ⟨(Nat.le_of_ble_eq_true rfl), (Nat.le_of_ble_eq_true rfl)⟩ rfl (Nat.le_of_ble_eq_true rfl) dX2_setFinal_3 ⟨Nat.zero_le _, Nat.zero_le _⟩ ?_
  refine v_st (st' := [.int (bI true)]) rfl ?_
  refine v_istore_n (lv' := [(3, .int (bI true)), (0, .ref (ad 1)), (1, .int (nI o)), (2, .int (bI b))]) 7 rfl dX2_setFinal_6 rfl (Nat.le_of_ble_eq_true rfl) rfl ?_
  refine v_iload_n 8 rfl dX2_setFinal_7 rfl rfl ?_
  refine v_if_eqB (b := true) 18 11 rfl dX2_setFinal_8 (by decide) (fun q => False.elim (by cases q)) (fun c8 => ?_)
  refine v_aload_n 12 rfl dX2_setFinal_11 rfl rfl ?_
  refine v_get (ci := 2) (C := RX2) (T := TX2) (N := 2) (v := .ref (ad 3)) 15 rfl 1 1 dX2_setFinal_12 rfl (Nat.le_of_ble_eq_true rfl) i2 (by decide +kernel) rfl rfl ?_
  refine v_iload_n 16 rfl dX2_setFinal_15 rfl rfl ?_
  refine v_iload_n 17 rfl dX2_setFinal_16 rfl rfl ?_
  refine v_zast (j := o) (b := b) (w' := wC ad cI cZ tg (upd fn o (bI b)) ki nu fi se ju op en sm ob be af pl rf rp rs ra rb rl) 18 rfl 3 1 dX2_setFinal_17 rfl rfl (by omega) (by decide) rfl ?_
  refine v_iload_n 19 rfl dX2_setFinal_18 rfl rfl ?_
  exact v_zret dX2_setFinal_19 rfl rfl rfl

set_option maxRecDepth 100000 in
set_option maxHeartbeats 4000000 in
theorem c_targetOf {D : va_G} {cI cZ cJ : ClassId} {l : Launch} {ad : Nat → Nat} {tg : Nat → Int32} {fn : Nat → Int32} {ki : Nat → Int32} {nu : Nat → Int32} {fi : Nat → Int32} {se : Nat → Int32} {ju : Nat → Int32} {op : Nat → Int32} {en : Nat} {sm : Nat} {ob : Nat} {be : Nat → Int32} {af : Nat → Int32} {pl : Int32} {rf : Int32} {rp : Int32} {rs : Nat} {ra : Nat} {rb : Int32} {rl : Nat} (o e : Nat) (t : Int32) (ho : o < 24) (he : e < 4) (ht : tg (o * 4 + e) = t) : KM D (tyL cI cZ cJ) l yX2_targetOf wsX2_targetOf 1 21 [.ref (ad 1), .int (nI o), .int (nI e)] (wC ad cI cZ tg fn ki nu fi se ju op en sm ob be af pl rf rp rs ra rb rl) (some (.int t)) (wC ad cI cZ tg fn ki nu fi se ju op en sm ob be af pl rf rp rs ra rb rl) := by
  refine KM.of (cc := cX2_targetOf) (nL := 3) (ret := (some .int)) (by decide +kernel) rfl (Nat.le_of_ble_eq_true rfl) ?_
  have i2 : ∀ w ∈ u_ws RX2 TX2 2, w ∈ wsX2_targetOf := by decide +kernel
  refine v_iload_n 1 rfl dX2_targetOf_0 rfl rfl ?_
  refine v_bipush (v := nI 24) 3 rfl dX2_targetOf_1 (by decide) ?_
  refine v_callSN (n := 2) 6 rfl (c_isBelowT o 24 (by omega) (by omega)) gX2_targetOf_X4_isBelow_n25 rfl (by decide +kernel) (by decide +kernel) (by decide +kernel) (by decide +kernel) rfl ⟨(Nat.le_of_ble_eq_true rfl), (Nat.le_of_ble_eq_true rfl)⟩ rfl (Nat.le_of_ble_eq_true rfl) dX2_targetOf_3 ⟨Nat.zero_le _, Nat.zero_le _⟩ ?_
  refine v_st (st' := [.int (bI true)]) rfl ?_
  refine v_if_eqB (b := true) 30 9 rfl dX2_targetOf_6 (by decide) (fun q => False.elim (by cases q)) (fun c6 => ?_)
  refine v_iload_n 10 rfl dX2_targetOf_9 rfl rfl ?_
  refine v_iconst (v := nI 4) 11 rfl dX2_targetOf_10 (by decide) ?_
  refine v_callSN (n := 2) 14 rfl (c_isBelowT e 4 (by omega) (by omega)) gX2_targetOf_X4_isBelow_n25 rfl (by decide +kernel) (by decide +kernel) (by decide +kernel) (by decide +kernel) rfl ⟨(Nat.le_of_ble_eq_true rfl), (Nat.le_of_ble_eq_true rfl)⟩ rfl (Nat.le_of_ble_eq_true rfl) dX2_targetOf_11 ⟨Nat.zero_le _, Nat.zero_le _⟩ ?_
  refine v_st (st' := [.int (bI true)]) rfl ?_
  refine v_if_eqB (b := true) 30 17 rfl dX2_targetOf_14 (by decide) (fun q => False.elim (by cases q)) (fun c14 => ?_)
  refine v_aload_n 18 rfl dX2_targetOf_17 rfl rfl ?_
  refine v_get (ci := 2) (C := RX2) (T := TX2) (N := 2) (v := .ref (ad 2)) 21 rfl 1 0 dX2_targetOf_18 rfl (Nat.le_of_ble_eq_true rfl) i2 (by decide +kernel) rfl rfl ?_
  refine v_iload_n 22 rfl dX2_targetOf_21 rfl rfl ?_
  refine v_iconst (v := nI 4) 23 rfl dX2_targetOf_22 (by decide) ?_
  refine v_imulN (a := o) (b := 4) 24 rfl dX2_targetOf_23 ?_
  refine v_iload_n 25 rfl dX2_targetOf_24 rfl rfl ?_
  refine v_iaddN (a := o * 4) (b := e) 26 rfl dX2_targetOf_25 ?_
  refine v_iald (j := (o * 4) + e) (v := t) 27 rfl 2 0 dX2_targetOf_26 rfl rfl (by omega) (by decide) ht ?_
  refine v_goto 31 dX2_targetOf_27 (by decide) ?_
  exact v_iret dX2_targetOf_31 rfl rfl rfl

set_option maxRecDepth 100000 in
set_option maxHeartbeats 4000000 in
theorem c_mayBeLeft {D : va_G} {cI cZ cJ : ClassId} {l : Launch} {ad : Nat → Nat} {tg : Nat → Int32} {fn : Nat → Int32} {ki : Nat → Int32} {nu : Nat → Int32} {fi : Nat → Int32} {se : Nat → Int32} {ju : Nat → Int32} {op : Nat → Int32} {en : Nat} {sm : Nat} {ob : Nat} {be : Nat → Int32} {af : Nat → Int32} {pl : Int32} {rf : Int32} {rp : Int32} {rs : Nat} {ra : Nat} {rb : Int32} {rl : Nat} (o : Nat) (b : Bool) (ho : o < 24) (hb : fn o = bI b) : KM D (tyL cI cZ cJ) l yX2_mayBeLeft wsX2_mayBeLeft 1 21 [.ref (ad 1), .int (nI o)] (wC ad cI cZ tg fn ki nu fi se ju op en sm ob be af pl rf rp rs ra rb rl) (some (.int (bI b))) (wC ad cI cZ tg fn ki nu fi se ju op en sm ob be af pl rf rp rs ra rb rl) := by
  refine KM.of (cc := cX2_mayBeLeft) (nL := 2) (ret := (some .boolean)) (by decide +kernel) rfl (Nat.le_of_ble_eq_true rfl) ?_
  have i2 : ∀ w ∈ u_ws RX2 TX2 2, w ∈ wsX2_mayBeLeft := by decide +kernel
  refine v_iload_n 1 rfl dX2_mayBeLeft_0 rfl rfl ?_
  refine v_bipush (v := nI 24) 3 rfl dX2_mayBeLeft_1 (by decide) ?_
  refine v_callSN (n := 2) 6 rfl (c_isBelowT o 24 (by omega) (by omega)) gX2_mayBeLeft_X4_isBelow_n25 rfl (by decide +kernel) (by decide +kernel) (by decide +kernel) (by decide +kernel) rfl ⟨(Nat.le_of_ble_eq_true rfl), (Nat.le_of_ble_eq_true rfl)⟩ rfl (Nat.le_of_ble_eq_true rfl) dX2_mayBeLeft_3 ⟨Nat.zero_le _, Nat.zero_le _⟩ ?_
  refine v_st (st' := [.int (bI true)]) rfl ?_
  refine v_if_eqB (b := true) 22 9 rfl dX2_mayBeLeft_6 (by decide) (fun q => False.elim (by cases q)) (fun c6 => ?_)
  refine v_aload_n 10 rfl dX2_mayBeLeft_9 rfl rfl ?_
  refine v_get (ci := 2) (C := RX2) (T := TX2) (N := 2) (v := .ref (ad 3)) 13 rfl 1 1 dX2_mayBeLeft_10 rfl (Nat.le_of_ble_eq_true rfl) i2 (by decide +kernel) rfl rfl ?_
  refine v_iload_n 14 rfl dX2_mayBeLeft_13 rfl rfl ?_
  refine v_zald (j := o) (v := bI b) 15 rfl 3 1 dX2_mayBeLeft_14 rfl rfl (by omega) (by decide) hb ?_
  refine v_if_eqB (b := b) 22 18 rfl dX2_mayBeLeft_15 (by decide) (fun c15 => ?_) (fun c15 => ?_)
  · refine v_iconst (v := nI 0) 23 rfl dX2_mayBeLeft_22 (by decide) ?_
    refine v_top (v' := bI false) (by decide) ?_
    exact v_zret dX2_mayBeLeft_23 rfl (by simp [*]) rfl
  · refine v_iconst (v := nI 1) 19 rfl dX2_mayBeLeft_18 (by decide) ?_
    refine v_goto 23 dX2_mayBeLeft_19 (by decide) ?_
    refine v_top (v' := bI true) (by decide) ?_
    exact v_zret dX2_mayBeLeft_23 rfl (by simp [*]) rfl

set_option maxRecDepth 100000 in
set_option maxHeartbeats 4000000 in
theorem c_removeAll {D : va_G} {cI cZ cJ : ClassId} {l : Launch} {ad : Nat → Nat} {tg : Nat → Int32} {fn : Nat → Int32} {ki : Nat → Int32} {nu : Nat → Int32} {fi : Nat → Int32} {se : Nat → Int32} {ju : Nat → Int32} {op : Nat → Int32} {en : Nat} {sm : Nat} {ob : Nat} {be : Nat → Int32} {af : Nat → Int32} {pl : Int32} {rf : Int32} {rp : Int32} {rs : Nat} {ra : Nat} {rb : Int32} {rl : Nat}  : KM D (tyL cI cZ cJ) l yX1_removeAll wsX1_removeAll 0 0 [.ref (ad 4)] (wC ad cI cZ tg fn ki nu fi se ju op en sm ob be af pl rf rp rs ra rb rl) none (wC ad cI cZ tg fn ki nu fi se ju op 0 0 0 be af pl rf rp rs ra rb rl) := by
  refine KM.of (cc := cX1_removeAll) (nL := 1) (ret := none) (by decide +kernel) rfl (Nat.le_of_ble_eq_true rfl) ?_
  have i1 : ∀ w ∈ u_ws RX1 TX1 9, w ∈ wsX1_removeAll := by decide +kernel
  refine v_aload_n 1 rfl dX1_removeAll_0 rfl rfl ?_
  refine v_iconst (v := nI 0) 2 rfl dX1_removeAll_1 (by decide) ?_
  refine v_put (ci := 1) (C := RX1) (T := TX1) (ty0 := tyX1) (N := 9) (ty := .int) (w' := wC ad cI cZ tg fn ki nu fi se ju op 0 sm ob be af pl rf rp rs ra rb rl) 5 rfl 4 6 dX1_removeAll_2 rfl (Nat.le_of_ble_eq_true rfl) i1 tyX1_ok nmX1 (by decide +kernel) rfl (by decide +kernel) rfl rfl rfl (Nat.le_of_ble_eq_true rfl) rfl ?_
  refine v_aload_n 6 rfl dX1_removeAll_5 rfl rfl ?_
  refine v_iconst (v := nI 0) 7 rfl dX1_removeAll_6 (by decide) ?_
  refine v_put (ci := 1) (C := RX1) (T := TX1) (ty0 := tyX1) (N := 9) (ty := .int) (w' := wC ad cI cZ tg fn ki nu fi se ju op 0 0 ob be af pl rf rp rs ra rb rl) 10 rfl 4 7 dX1_removeAll_7 rfl (Nat.le_of_ble_eq_true rfl) i1 tyX1_ok nmX1 (by decide +kernel) rfl (by decide +kernel) rfl rfl rfl (Nat.le_of_ble_eq_true rfl) rfl ?_
  refine v_aload_n 11 rfl dX1_removeAll_10 rfl rfl ?_
  refine v_iconst (v := nI 0) 12 rfl dX1_removeAll_11 (by decide) ?_
  refine v_put (ci := 1) (C := RX1) (T := TX1) (ty0 := tyX1) (N := 9) (ty := .int) (w' := wC ad cI cZ tg fn ki nu fi se ju op 0 0 0 be af pl rf rp rs ra rb rl) 15 rfl 4 8 dX1_removeAll_12 rfl (Nat.le_of_ble_eq_true rfl) i1 tyX1_ok nmX1 (by decide +kernel) rfl (by decide +kernel) rfl rfl rfl (Nat.le_of_ble_eq_true rfl) rfl ?_
  exact v_vret dX1_removeAll_15 rfl rfl rfl

set_option maxRecDepth 100000 in
set_option maxHeartbeats 4000000 in
theorem c_hasOpenBlocks {D : va_G} {cI cZ cJ : ClassId} {l : Launch} {ad : Nat → Nat} {tg : Nat → Int32} {fn : Nat → Int32} {ki : Nat → Int32} {nu : Nat → Int32} {fi : Nat → Int32} {se : Nat → Int32} {ju : Nat → Int32} {op : Nat → Int32} {en : Nat} {sm : Nat} {ob : Nat} {be : Nat → Int32} {af : Nat → Int32} {pl : Int32} {rf : Int32} {rp : Int32} {rs : Nat} {ra : Nat} {rb : Int32} {rl : Nat} (ho : ob ≤ 6) : KM D (tyL cI cZ cJ) l yX1_hasOpenBlocks wsX1_hasOpenBlocks 0 0 [.ref (ad 4)] (wC ad cI cZ tg fn ki nu fi se ju op en sm ob be af pl rf rp rs ra rb rl) (some (.int (bI (decide (0 < ob))))) (wC ad cI cZ tg fn ki nu fi se ju op en sm ob be af pl rf rp rs ra rb rl) := by
  refine KM.of (cc := cX1_hasOpenBlocks) (nL := 1) (ret := (some .boolean)) (by decide +kernel) rfl (Nat.le_of_ble_eq_true rfl) ?_
  have i1 : ∀ w ∈ u_ws RX1 TX1 9, w ∈ wsX1_hasOpenBlocks := by decide +kernel
  refine v_aload_n 1 rfl dX1_hasOpenBlocks_0 rfl rfl ?_
  refine v_get (ci := 1) (C := RX1) (T := TX1) (N := 9) (v := .int (nI ob)) 4 rfl 4 8 dX1_hasOpenBlocks_1 rfl (Nat.le_of_ble_eq_true rfl) i1 (by decide +kernel) rfl rfl ?_
  refine v_if_leN (a := ob) 11 7 rfl dX1_hasOpenBlocks_4 (by decide) (by omega) (fun c4 => ?_) (fun c4 => ?_)
  · refine v_iconst (v := nI 0) 12 rfl dX1_hasOpenBlocks_11 (by decide) ?_
    refine v_top (v' := bI false) (by decide) ?_
    exact v_zret dX1_hasOpenBlocks_12 rfl (by simp [*]) rfl
  · refine v_iconst (v := nI 1) 8 rfl dX1_hasOpenBlocks_7 (by decide) ?_
    refine v_goto 12 dX1_hasOpenBlocks_8 (by decide) ?_
    refine v_top (v' := bI true) (by decide) ?_
    exact v_zret dX1_hasOpenBlocks_12 rfl (by simp [*]) rfl

set_option maxRecDepth 100000 in
set_option maxHeartbeats 4000000 in
theorem c_hasEntry {D : va_G} {cI cZ cJ : ClassId} {l : Launch} {ad : Nat → Nat} {tg : Nat → Int32} {fn : Nat → Int32} {ki : Nat → Int32} {nu : Nat → Int32} {fi : Nat → Int32} {se : Nat → Int32} {ju : Nat → Int32} {op : Nat → Int32} {en : Nat} {sm : Nat} {ob : Nat} {be : Nat → Int32} {af : Nat → Int32} {pl : Int32} {rf : Int32} {rp : Int32} {rs : Nat} {ra : Nat} {rb : Int32} {rl : Nat} (a : Int32) : KM D (tyL cI cZ cJ) l yX1_hasEntry wsX1_hasEntry 1 21 [.ref (ad 4), .int a] (wC ad cI cZ tg fn ki nu fi se ju op en sm ob be af pl rf rp rs ra rb rl) (some (.int (bI (bel a (nI en))))) (wC ad cI cZ tg fn ki nu fi se ju op en sm ob be af pl rf rp rs ra rb rl) := by
  refine KM.of (cc := cX1_hasEntry) (nL := 2) (ret := (some .boolean)) (by decide +kernel) rfl (Nat.le_of_ble_eq_true rfl) ?_
  have i1 : ∀ w ∈ u_ws RX1 TX1 9, w ∈ wsX1_hasEntry := by decide +kernel
  refine v_iload_n 1 rfl dX1_hasEntry_0 rfl rfl ?_
  refine v_aload_n 2 rfl dX1_hasEntry_1 rfl rfl ?_
  refine v_get (ci := 1) (C := RX1) (T := TX1) (N := 9) (v := .int (nI en)) 5 rfl 4 6 dX1_hasEntry_2 rfl (Nat.le_of_ble_eq_true rfl) i1 (by decide +kernel) rfl rfl ?_
  refine v_callSN (n := 2) 8 rfl (c_isBelow a (nI en)) gX1_hasEntry_X4_isBelow_n40 rfl (by decide +kernel) (by decide +kernel) (by decide +kernel) (by decide +kernel) rfl ⟨(Nat.le_of_ble_eq_true rfl), (Nat.le_of_ble_eq_true rfl)⟩ rfl (Nat.le_of_ble_eq_true rfl) dX1_hasEntry_5 ⟨Nat.zero_le _, Nat.zero_le _⟩ ?_
  refine v_st (st' := [.int (bI (bel a (nI en)))]) rfl ?_
  exact v_zret dX1_hasEntry_8 rfl rfl rfl

set_option maxRecDepth 100000 in
set_option maxHeartbeats 4000000 in
theorem c_hasEntryT {D : va_G} {cI cZ cJ : ClassId} {l : Launch} {ad : Nat → Nat} {tg : Nat → Int32} {fn : Nat → Int32} {ki : Nat → Int32} {nu : Nat → Int32} {fi : Nat → Int32} {se : Nat → Int32} {ju : Nat → Int32} {op : Nat → Int32} {en : Nat} {sm : Nat} {ob : Nat} {be : Nat → Int32} {af : Nat → Int32} {pl : Int32} {rf : Int32} {rp : Int32} {rs : Nat} {ra : Nat} {rb : Int32} {rl : Nat} (a : Nat) (h : a < en) (hen : en ≤ 120) : KM D (tyL cI cZ cJ) l yX1_hasEntry wsX1_hasEntry 1 21 [.ref (ad 4), .int (nI a)] (wC ad cI cZ tg fn ki nu fi se ju op en sm ob be af pl rf rp rs ra rb rl) (some (.int (bI true))) (wC ad cI cZ tg fn ki nu fi se ju op en sm ob be af pl rf rp rs ra rb rl) := by
  refine KM.of (cc := cX1_hasEntry) (nL := 2) (ret := (some .boolean)) (by decide +kernel) rfl (Nat.le_of_ble_eq_true rfl) ?_
  have i1 : ∀ w ∈ u_ws RX1 TX1 9, w ∈ wsX1_hasEntry := by decide +kernel
  refine v_iload_n 1 rfl dX1_hasEntry_0 rfl rfl ?_
  refine v_aload_n 2 rfl dX1_hasEntry_1 rfl rfl ?_
  refine v_get (ci := 1) (C := RX1) (T := TX1) (N := 9) (v := .int (nI en)) 5 rfl 4 6 dX1_hasEntry_2 rfl (Nat.le_of_ble_eq_true rfl) i1 (by decide +kernel) rfl rfl ?_
  refine v_callSN (n := 2) 8 rfl (c_isBelowT a en (by omega) (by omega)) gX1_hasEntry_X4_isBelow_n40 rfl (by decide +kernel) (by decide +kernel) (by decide +kernel) (by decide +kernel) rfl ⟨(Nat.le_of_ble_eq_true rfl), (Nat.le_of_ble_eq_true rfl)⟩ rfl (Nat.le_of_ble_eq_true rfl) dX1_hasEntry_5 ⟨Nat.zero_le _, Nat.zero_le _⟩ ?_
  refine v_st (st' := [.int (bI true)]) rfl ?_
  exact v_zret dX1_hasEntry_8 rfl rfl rfl

set_option maxRecDepth 100000 in
set_option maxHeartbeats 4000000 in
theorem c_hasEntryF {D : va_G} {cI cZ cJ : ClassId} {l : Launch} {ad : Nat → Nat} {tg : Nat → Int32} {fn : Nat → Int32} {ki : Nat → Int32} {nu : Nat → Int32} {fi : Nat → Int32} {se : Nat → Int32} {ju : Nat → Int32} {op : Nat → Int32} {en : Nat} {sm : Nat} {ob : Nat} {be : Nat → Int32} {af : Nat → Int32} {pl : Int32} {rf : Int32} {rp : Int32} {rs : Nat} {ra : Nat} {rb : Int32} {rl : Nat} (a : Nat) (h : en ≤ a) (ha : a < 2 ^ 31) : KM D (tyL cI cZ cJ) l yX1_hasEntry wsX1_hasEntry 1 21 [.ref (ad 4), .int (nI a)] (wC ad cI cZ tg fn ki nu fi se ju op en sm ob be af pl rf rp rs ra rb rl) (some (.int (bI false))) (wC ad cI cZ tg fn ki nu fi se ju op en sm ob be af pl rf rp rs ra rb rl) := by
  refine KM.of (cc := cX1_hasEntry) (nL := 2) (ret := (some .boolean)) (by decide +kernel) rfl (Nat.le_of_ble_eq_true rfl) ?_
  have i1 : ∀ w ∈ u_ws RX1 TX1 9, w ∈ wsX1_hasEntry := by decide +kernel
  refine v_iload_n 1 rfl dX1_hasEntry_0 rfl rfl ?_
  refine v_aload_n 2 rfl dX1_hasEntry_1 rfl rfl ?_
  refine v_get (ci := 1) (C := RX1) (T := TX1) (N := 9) (v := .int (nI en)) 5 rfl 4 6 dX1_hasEntry_2 rfl (Nat.le_of_ble_eq_true rfl) i1 (by decide +kernel) rfl rfl ?_
  refine v_callSN (n := 2) 8 rfl (c_isBelowF a en (by omega) (by omega)) gX1_hasEntry_X4_isBelow_n40 rfl (by decide +kernel) (by decide +kernel) (by decide +kernel) (by decide +kernel) rfl ⟨(Nat.le_of_ble_eq_true rfl), (Nat.le_of_ble_eq_true rfl)⟩ rfl (Nat.le_of_ble_eq_true rfl) dX1_hasEntry_5 ⟨Nat.zero_le _, Nat.zero_le _⟩ ?_
  refine v_st (st' := [.int (bI false)]) rfl ?_
  exact v_zret dX1_hasEntry_8 rfl rfl rfl

theorem c_hasEntryM {D : va_G} {cI cZ cJ : ClassId} {l : Launch} {ad : Nat → Nat} {tg : Nat → Int32} {fn : Nat → Int32} {ki : Nat → Int32} {nu : Nat → Int32} {fi : Nat → Int32} {se : Nat → Int32} {ju : Nat → Int32} {op : Nat → Int32} {en : Nat} {sm : Nat} {ob : Nat} {be : Nat → Int32} {af : Nat → Int32} {pl : Int32} {rf : Int32} {rp : Int32} {rs : Nat} {ra : Nat} {rb : Int32} {rl : Nat} : KM D (tyL cI cZ cJ) l yX1_hasEntry wsX1_hasEntry 1 21 [.ref (ad 4), .int (-1)] (wC ad cI cZ tg fn ki nu fi se ju op en sm ob be af pl rf rp rs ra rb rl) (some (.int (bI false))) (wC ad cI cZ tg fn ki nu fi se ju op en sm ob be af pl rf rp rs ra rb rl) := by
  have := c_hasEntry (D := D) (cI := cI) (cZ := cZ) (cJ := cJ) (l := l) (ad := ad) (tg := tg) (fn := fn) (ki := ki) (nu := nu) (fi := fi) (se := se) (ju := ju) (op := op) (en := en) (sm := sm) (ob := ob) (be := be) (af := af) (pl := pl) (rf := rf) (rp := rp) (rs := rs) (ra := ra) (rb := rb) (rl := rl) (-1)
  rw [bel_m1] at this
  exact this

set_option maxRecDepth 100000 in
set_option maxHeartbeats 4000000 in
theorem c_addEntry {D : va_G} {cI cZ cJ : ClassId} {l : Launch} {ad : Nat → Nat} {tg : Nat → Int32} {fn : Nat → Int32} {ki : Nat → Int32} {nu : Nat → Int32} {fi : Nat → Int32} {se : Nat → Int32} {ju : Nat → Int32} {op : Nat → Int32} {en : Nat} {sm : Nat} {ob : Nat} {be : Nat → Int32} {af : Nat → Int32} {pl : Int32} {rf : Int32} {rp : Int32} {rs : Nat} {ra : Nat} {rb : Int32} {rl : Nat} (kd n f s : Int32) (hen : en < 120) : KM D (tyL cI cZ cJ) l yX1_addEntry wsX1_addEntry 0 0 [.ref (ad 4), .int kd, .int n, .int f, .int s] (wC ad cI cZ tg fn ki nu fi se ju op en sm ob be af pl rf rp rs ra rb rl) none (wC ad cI cZ tg fn (upd ki en kd) (upd nu en n) (upd fi en f) (upd se en s) ju op (en + 1) sm ob be af pl rf rp rs ra rb rl) := by
  refine KM.of (cc := cX1_addEntry) (nL := 5) (ret := none) (by decide +kernel) rfl (Nat.le_of_ble_eq_true rfl) ?_
  have i1 : ∀ w ∈ u_ws RX1 TX1 9, w ∈ wsX1_addEntry := by decide +kernel
  refine v_aload_n 1 rfl dX1_addEntry_0 rfl rfl ?_
  refine v_get (ci := 1) (C := RX1) (T := TX1) (N := 9) (v := .int (nI en)) 4 rfl 4 6 dX1_addEntry_1 rfl (Nat.le_of_ble_eq_true rfl) i1 (by decide +kernel) rfl rfl ?_
  refine v_bipush (v := nI 120) 6 rfl dX1_addEntry_4 (by decide) ?_
  refine v_icmp_geN (a := en) (b := 120) 60 9 rfl dX1_addEntry_6 (by decide) (by omega) (by omega) (fun q => False.elim (by omega)) (fun c6 => ?_)
  refine v_aload_n 10 rfl dX1_addEntry_9 rfl rfl ?_
  refine v_get (ci := 1) (C := RX1) (T := TX1) (N := 9) (v := .ref (ad 5)) 13 rfl 4 0 dX1_addEntry_10 rfl (Nat.le_of_ble_eq_true rfl) i1 (by decide +kernel) rfl rfl ?_
  refine v_aload_n 14 rfl dX1_addEntry_13 rfl rfl ?_
  refine v_get (ci := 1) (C := RX1) (T := TX1) (N := 9) (v := .int (nI en)) 17 rfl 4 6 dX1_addEntry_14 rfl (Nat.le_of_ble_eq_true rfl) i1 (by decide +kernel) rfl rfl ?_
  refine v_iload_n 18 rfl dX1_addEntry_17 rfl rfl ?_
  refine v_iast (j := en) (w' := wC ad cI cZ tg fn (upd ki en kd) nu fi se ju op en sm ob be af pl rf rp rs ra rb rl) 19 rfl 5 0 dX1_addEntry_18 rfl rfl (by omega) (by decide) rfl ?_
  refine v_aload_n 20 rfl dX1_addEntry_19 rfl rfl ?_
  refine v_get (ci := 1) (C := RX1) (T := TX1) (N := 9) (v := .ref (ad 6)) 23 rfl 4 1 dX1_addEntry_20 rfl (Nat.le_of_ble_eq_true rfl) i1 (by decide +kernel) rfl rfl ?_
  refine v_aload_n 24 rfl dX1_addEntry_23 rfl rfl ?_
  refine v_get (ci := 1) (C := RX1) (T := TX1) (N := 9) (v := .int (nI en)) 27 rfl 4 6 dX1_addEntry_24 rfl (Nat.le_of_ble_eq_true rfl) i1 (by decide +kernel) rfl rfl ?_
  refine v_iload_n 28 rfl dX1_addEntry_27 rfl rfl ?_
  refine v_iast (j := en) (w' := wC ad cI cZ tg fn (upd ki en kd) (upd nu en n) fi se ju op en sm ob be af pl rf rp rs ra rb rl) 29 rfl 6 0 dX1_addEntry_28 rfl rfl (by omega) (by decide) rfl ?_
  refine v_aload_n 30 rfl dX1_addEntry_29 rfl rfl ?_
  refine v_get (ci := 1) (C := RX1) (T := TX1) (N := 9) (v := .ref (ad 7)) 33 rfl 4 2 dX1_addEntry_30 rfl (Nat.le_of_ble_eq_true rfl) i1 (by decide +kernel) rfl rfl ?_
  refine v_aload_n 34 rfl dX1_addEntry_33 rfl rfl ?_
  refine v_get (ci := 1) (C := RX1) (T := TX1) (N := 9) (v := .int (nI en)) 37 rfl 4 6 dX1_addEntry_34 rfl (Nat.le_of_ble_eq_true rfl) i1 (by decide +kernel) rfl rfl ?_
  refine v_iload_n 38 rfl dX1_addEntry_37 rfl rfl ?_
  refine v_iast (j := en) (w' := wC ad cI cZ tg fn (upd ki en kd) (upd nu en n) (upd fi en f) se ju op en sm ob be af pl rf rp rs ra rb rl) 39 rfl 7 0 dX1_addEntry_38 rfl rfl (by omega) (by decide) rfl ?_
  refine v_aload_n 40 rfl dX1_addEntry_39 rfl rfl ?_
  refine v_get (ci := 1) (C := RX1) (T := TX1) (N := 9) (v := .ref (ad 8)) 43 rfl 4 3 dX1_addEntry_40 rfl (Nat.le_of_ble_eq_true rfl) i1 (by decide +kernel) rfl rfl ?_
  refine v_aload_n 44 rfl dX1_addEntry_43 rfl rfl ?_
  refine v_get (ci := 1) (C := RX1) (T := TX1) (N := 9) (v := .int (nI en)) 47 rfl 4 6 dX1_addEntry_44 rfl (Nat.le_of_ble_eq_true rfl) i1 (by decide +kernel) rfl rfl ?_
  refine v_iload 49 rfl dX1_addEntry_47 rfl ?_
  refine v_iast (j := en) (w' := wC ad cI cZ tg fn (upd ki en kd) (upd nu en n) (upd fi en f) (upd se en s) ju op en sm ob be af pl rf rp rs ra rb rl) 50 rfl 8 0 dX1_addEntry_49 rfl rfl (by omega) (by decide) rfl ?_
  refine v_aload_n 51 rfl dX1_addEntry_50 rfl rfl ?_
  refine v_dup 52 rfl dX1_addEntry_51 rfl ?_
  refine v_get (ci := 1) (C := RX1) (T := TX1) (N := 9) (v := .int (nI en)) 55 rfl 4 6 dX1_addEntry_52 rfl (Nat.le_of_ble_eq_true rfl) i1 (by decide +kernel) rfl rfl ?_
  refine v_iconst (v := nI 1) 56 rfl dX1_addEntry_55 (by decide) ?_
  refine v_iaddN (a := en) (b := 1) 57 rfl dX1_addEntry_56 ?_
  refine v_put (ci := 1) (C := RX1) (T := TX1) (ty0 := tyX1) (N := 9) (ty := .int) (w' := wC ad cI cZ tg fn (upd ki en kd) (upd nu en n) (upd fi en f) (upd se en s) ju op (en + 1) sm ob be af pl rf rp rs ra rb rl) 60 rfl 4 6 dX1_addEntry_57 rfl (Nat.le_of_ble_eq_true rfl) i1 tyX1_ok nmX1 (by decide +kernel) rfl (by decide +kernel) rfl rfl rfl (Nat.le_of_ble_eq_true rfl) rfl ?_
  exact v_vret dX1_addEntry_60 rfl rfl rfl

set_option maxRecDepth 100000 in
set_option maxHeartbeats 4000000 in
theorem c_addSimple {D : va_G} {cI cZ cJ : ClassId} {l : Launch} {ad : Nat → Nat} {tg : Nat → Int32} {fn : Nat → Int32} {ki : Nat → Int32} {nu : Nat → Int32} {fi : Nat → Int32} {se : Nat → Int32} {ju : Nat → Int32} {op : Nat → Int32} {en : Nat} {sm : Nat} {ob : Nat} {be : Nat → Int32} {af : Nat → Int32} {pl : Int32} {rf : Int32} {rp : Int32} {rs : Nat} {ra : Nat} {rb : Int32} {rl : Nat} (kd a b : Int32) (hs : sm < 40) (hen : en < 120) : KM D (tyL cI cZ cJ) l yX1_addSimple wsX1_addSimple 1 24 [.ref (ad 4), .int kd, .int a, .int b] (wC ad cI cZ tg fn ki nu fi se ju op en sm ob be af pl rf rp rs ra rb rl) (some (.int (nI sm))) (wC ad cI cZ tg fn (upd ki en kd) (upd nu en (nI sm)) (upd fi en a) (upd se en b) ju op (en + 1) (sm + 1) ob be af pl rf rp rs ra rb rl) := by
  refine KM.of (cc := cX1_addSimple) (nL := 4) (ret := (some .int)) (by decide +kernel) rfl (Nat.le_of_ble_eq_true rfl) ?_
  have i1 : ∀ w ∈ u_ws RX1 TX1 9, w ∈ wsX1_addSimple := by decide +kernel
  refine v_aload_n 1 rfl dX1_addSimple_0 rfl rfl ?_
  refine v_get (ci := 1) (C := RX1) (T := TX1) (N := 9) (v := .int (nI sm)) 4 rfl 4 7 dX1_addSimple_1 rfl (Nat.le_of_ble_eq_true rfl) i1 (by decide +kernel) rfl rfl ?_
  refine v_bipush (v := nI 40) 6 rfl dX1_addSimple_4 (by decide) ?_
  refine v_icmp_ltN (a := sm) (b := 40) 11 9 rfl dX1_addSimple_6 (by decide) (by omega) (by omega) (fun c6 => ?_) (fun q => False.elim (by omega))
  refine v_aload_n 12 rfl dX1_addSimple_11 rfl rfl ?_
  refine v_iload_n 13 rfl dX1_addSimple_12 rfl rfl ?_
  refine v_aload_n 14 rfl dX1_addSimple_13 rfl rfl ?_
  refine v_get (ci := 1) (C := RX1) (T := TX1) (N := 9) (v := .int (nI sm)) 17 rfl 4 7 dX1_addSimple_14 rfl (Nat.le_of_ble_eq_true rfl) i1 (by decide +kernel) rfl rfl ?_
  refine v_iload_n 18 rfl dX1_addSimple_17 rfl rfl ?_
  refine v_iload_n 19 rfl dX1_addSimple_18 rfl rfl ?_
  refine v_callF (n := 4) (q0 := 4) (ci := 1) 22 rfl (c_addEntry kd (nI sm) a b (by omega)) gX1_addSimple_X1_addEntry rfl (by decide +kernel) rfl ⟨(Nat.le_of_ble_eq_true rfl), (Nat.le_of_ble_eq_true rfl)⟩ rfl (Nat.le_of_ble_eq_true rfl) rfl rfl rfl dX1_addSimple_19 ⟨Nat.zero_le _, Nat.zero_le _⟩ rfl ?_
  refine v_st (st' := []) rfl ?_
  refine v_aload_n 23 rfl dX1_addSimple_22 rfl rfl ?_
  refine v_dup 24 rfl dX1_addSimple_23 rfl ?_
  refine v_get (ci := 1) (C := RX1) (T := TX1) (N := 9) (v := .int (nI sm)) 27 rfl 4 7 dX1_addSimple_24 rfl (Nat.le_of_ble_eq_true rfl) i1 (by decide +kernel) rfl rfl ?_
  refine v_dup_x1 28 rfl dX1_addSimple_27 rfl rfl ?_
  refine v_iconst (v := nI 1) 29 rfl dX1_addSimple_28 (by decide) ?_
  refine v_iaddN (a := sm) (b := 1) 30 rfl dX1_addSimple_29 ?_
  refine v_put (ci := 1) (C := RX1) (T := TX1) (ty0 := tyX1) (N := 9) (ty := .int) (w' := wC ad cI cZ tg fn (upd ki en kd) (upd nu en (nI sm)) (upd fi en a) (upd se en b) ju op (en + 1) (sm + 1) ob be af pl rf rp rs ra rb rl) 33 rfl 4 7 dX1_addSimple_30 rfl (Nat.le_of_ble_eq_true rfl) i1 tyX1_ok nmX1 (by decide +kernel) rfl (by decide +kernel) rfl rfl rfl (Nat.le_of_ble_eq_true rfl) rfl ?_
  exact v_iret dX1_addSimple_33 rfl rfl rfl

set_option maxRecDepth 100000 in
set_option maxHeartbeats 4000000 in
theorem c_addSimpleNo {D : va_G} {cI cZ cJ : ClassId} {l : Launch} {ad : Nat → Nat} {tg : Nat → Int32} {fn : Nat → Int32} {ki : Nat → Int32} {nu : Nat → Int32} {fi : Nat → Int32} {se : Nat → Int32} {ju : Nat → Int32} {op : Nat → Int32} {en : Nat} {sm : Nat} {ob : Nat} {be : Nat → Int32} {af : Nat → Int32} {pl : Int32} {rf : Int32} {rp : Int32} {rs : Nat} {ra : Nat} {rb : Int32} {rl : Nat} (kd a b : Int32) (hs : sm = 40) : KM D (tyL cI cZ cJ) l yX1_addSimple wsX1_addSimple 0 0 [.ref (ad 4), .int kd, .int a, .int b] (wC ad cI cZ tg fn ki nu fi se ju op en sm ob be af pl rf rp rs ra rb rl) (some (.int (-1))) (wC ad cI cZ tg fn ki nu fi se ju op en sm ob be af pl rf rp rs ra rb rl) := by
  refine KM.of (cc := cX1_addSimple) (nL := 4) (ret := (some .int)) (by decide +kernel) rfl (Nat.le_of_ble_eq_true rfl) ?_
  have i1 : ∀ w ∈ u_ws RX1 TX1 9, w ∈ wsX1_addSimple := by decide +kernel
  refine v_aload_n 1 rfl dX1_addSimple_0 rfl rfl ?_
  refine v_get (ci := 1) (C := RX1) (T := TX1) (N := 9) (v := .int (nI sm)) 4 rfl 4 7 dX1_addSimple_1 rfl (Nat.le_of_ble_eq_true rfl) i1 (by decide +kernel) rfl rfl ?_
  refine v_bipush (v := nI 40) 6 rfl dX1_addSimple_4 (by decide) ?_
  refine v_icmp_ltN (a := sm) (b := 40) 11 9 rfl dX1_addSimple_6 (by decide) (by omega) (by omega) (fun q => False.elim (by omega)) (fun c6 => ?_)
  refine v_iconst (v := -1) 10 rfl dX1_addSimple_9 (by decide) ?_
  exact v_iret dX1_addSimple_10 rfl rfl rfl

set_option maxRecDepth 100000 in
set_option maxHeartbeats 4000000 in
theorem c_addOpening {D : va_G} {cI cZ cJ : ClassId} {l : Launch} {ad : Nat → Nat} {tg : Nat → Int32} {fn : Nat → Int32} {ki : Nat → Int32} {nu : Nat → Int32} {fi : Nat → Int32} {se : Nat → Int32} {ju : Nat → Int32} {op : Nat → Int32} {en : Nat} {sm : Nat} {ob : Nat} {be : Nat → Int32} {af : Nat → Int32} {pl : Int32} {rf : Int32} {rp : Int32} {rs : Nat} {ra : Nat} {rb : Int32} {rl : Nat} (kd : Int32) (hs : sm < 40) (ho : ob < 6) (hen : en < 120) : KM D (tyL cI cZ cJ) l yX1_addOpening wsX1_addOpening 1 24 [.ref (ad 4), .int kd] (wC ad cI cZ tg fn ki nu fi se ju op en sm ob be af pl rf rp rs ra rb rl) (some (.int (nI sm))) (wC ad cI cZ tg fn (upd ki en kd) (upd nu en (nI sm)) (upd fi en (nI 0)) (upd se en (nI 0)) ju (upd op ob (nI en)) (en + 1) (sm + 1) (ob + 1) be af pl rf rp rs ra rb rl) := by
  refine KM.of (cc := cX1_addOpening) (nL := 2) (ret := (some .int)) (by decide +kernel) rfl (Nat.le_of_ble_eq_true rfl) ?_
  have i1 : ∀ w ∈ u_ws RX1 TX1 9, w ∈ wsX1_addOpening := by decide +kernel
  refine v_aload_n 1 rfl dX1_addOpening_0 rfl rfl ?_
  refine v_get (ci := 1) (C := RX1) (T := TX1) (N := 9) (v := .int (nI sm)) 4 rfl 4 7 dX1_addOpening_1 rfl (Nat.le_of_ble_eq_true rfl) i1 (by decide +kernel) rfl rfl ?_
  refine v_bipush (v := nI 40) 6 rfl dX1_addOpening_4 (by decide) ?_
  refine v_icmp_geN (a := sm) (b := 40) 18 9 rfl dX1_addOpening_6 (by decide) (by omega) (by omega) (fun q => False.elim (by omega)) (fun c6 => ?_)
  refine v_aload_n 10 rfl dX1_addOpening_9 rfl rfl ?_
  refine v_get (ci := 1) (C := RX1) (T := TX1) (N := 9) (v := .int (nI ob)) 13 rfl 4 8 dX1_addOpening_10 rfl (Nat.le_of_ble_eq_true rfl) i1 (by decide +kernel) rfl rfl ?_
  refine v_bipush (v := nI 6) 15 rfl dX1_addOpening_13 (by decide) ?_
  refine v_icmp_ltN (a := ob) (b := 6) 20 18 rfl dX1_addOpening_15 (by decide) (by omega) (by omega) (fun c15 => ?_) (fun q => False.elim (by omega))
  refine v_aload_n 21 rfl dX1_addOpening_20 rfl rfl ?_
  refine v_get (ci := 1) (C := RX1) (T := TX1) (N := 9) (v := .ref (ad 10)) 24 rfl 4 5 dX1_addOpening_21 rfl (Nat.le_of_ble_eq_true rfl) i1 (by decide +kernel) rfl rfl ?_
  refine v_aload_n 25 rfl dX1_addOpening_24 rfl rfl ?_
  refine v_get (ci := 1) (C := RX1) (T := TX1) (N := 9) (v := .int (nI ob)) 28 rfl 4 8 dX1_addOpening_25 rfl (Nat.le_of_ble_eq_true rfl) i1 (by decide +kernel) rfl rfl ?_
  refine v_aload_n 29 rfl dX1_addOpening_28 rfl rfl ?_
  refine v_get (ci := 1) (C := RX1) (T := TX1) (N := 9) (v := .int (nI en)) 32 rfl 4 6 dX1_addOpening_29 rfl (Nat.le_of_ble_eq_true rfl) i1 (by decide +kernel) rfl rfl ?_
  refine v_iast (j := ob) (w' := wC ad cI cZ tg fn ki nu fi se ju (upd op ob (nI en)) en sm ob be af pl rf rp rs ra rb rl) 33 rfl 10 0 dX1_addOpening_32 rfl rfl (by omega) (by decide) rfl ?_
  refine v_aload_n 34 rfl dX1_addOpening_33 rfl rfl ?_
  refine v_dup 35 rfl dX1_addOpening_34 rfl ?_
  refine v_get (ci := 1) (C := RX1) (T := TX1) (N := 9) (v := .int (nI ob)) 38 rfl 4 8 dX1_addOpening_35 rfl (Nat.le_of_ble_eq_true rfl) i1 (by decide +kernel) rfl rfl ?_
  refine v_iconst (v := nI 1) 39 rfl dX1_addOpening_38 (by decide) ?_
  refine v_iaddN (a := ob) (b := 1) 40 rfl dX1_addOpening_39 ?_
  refine v_put (ci := 1) (C := RX1) (T := TX1) (ty0 := tyX1) (N := 9) (ty := .int) (w' := wC ad cI cZ tg fn ki nu fi se ju (upd op ob (nI en)) en sm (ob + 1) be af pl rf rp rs ra rb rl) 43 rfl 4 8 dX1_addOpening_40 rfl (Nat.le_of_ble_eq_true rfl) i1 tyX1_ok nmX1 (by decide +kernel) rfl (by decide +kernel) rfl rfl rfl (Nat.le_of_ble_eq_true rfl) rfl ?_
  refine v_aload_n 44 rfl dX1_addOpening_43 rfl rfl ?_
  refine v_iload_n 45 rfl dX1_addOpening_44 rfl rfl ?_
  refine v_aload_n 46 rfl dX1_addOpening_45 rfl rfl ?_
  refine v_get (ci := 1) (C := RX1) (T := TX1) (N := 9) (v := .int (nI sm)) 49 rfl 4 7 dX1_addOpening_46 rfl (Nat.le_of_ble_eq_true rfl) i1 (by decide +kernel) rfl rfl ?_
  refine v_iconst (v := nI 0) 50 rfl dX1_addOpening_49 (by decide) ?_
  refine v_iconst (v := nI 0) 51 rfl dX1_addOpening_50 (by decide) ?_
  refine v_callF (n := 4) (q0 := 4) (ci := 1) 54 rfl (c_addEntry kd (nI sm) (nI 0) (nI 0) (by omega)) gX1_addOpening_X1_addEntry rfl (by decide +kernel) rfl ⟨(Nat.le_of_ble_eq_true rfl), (Nat.le_of_ble_eq_true rfl)⟩ rfl (Nat.le_of_ble_eq_true rfl) rfl rfl rfl dX1_addOpening_51 ⟨Nat.zero_le _, Nat.zero_le _⟩ rfl ?_
  refine v_st (st' := []) rfl ?_
  refine v_aload_n 55 rfl dX1_addOpening_54 rfl rfl ?_
  refine v_dup 56 rfl dX1_addOpening_55 rfl ?_
  refine v_get (ci := 1) (C := RX1) (T := TX1) (N := 9) (v := .int (nI sm)) 59 rfl 4 7 dX1_addOpening_56 rfl (Nat.le_of_ble_eq_true rfl) i1 (by decide +kernel) rfl rfl ?_
  refine v_dup_x1 60 rfl dX1_addOpening_59 rfl rfl ?_
  refine v_iconst (v := nI 1) 61 rfl dX1_addOpening_60 (by decide) ?_
  refine v_iaddN (a := sm) (b := 1) 62 rfl dX1_addOpening_61 ?_
  refine v_put (ci := 1) (C := RX1) (T := TX1) (ty0 := tyX1) (N := 9) (ty := .int) (w' := wC ad cI cZ tg fn (upd ki en kd) (upd nu en (nI sm)) (upd fi en (nI 0)) (upd se en (nI 0)) ju (upd op ob (nI en)) (en + 1) (sm + 1) (ob + 1) be af pl rf rp rs ra rb rl) 65 rfl 4 7 dX1_addOpening_62 rfl (Nat.le_of_ble_eq_true rfl) i1 tyX1_ok nmX1 (by decide +kernel) rfl (by decide +kernel) rfl rfl rfl (Nat.le_of_ble_eq_true rfl) rfl ?_
  exact v_iret dX1_addOpening_65 rfl rfl rfl

set_option maxRecDepth 100000 in
set_option maxHeartbeats 4000000 in
theorem c_addOpeningNo {D : va_G} {cI cZ cJ : ClassId} {l : Launch} {ad : Nat → Nat} {tg : Nat → Int32} {fn : Nat → Int32} {ki : Nat → Int32} {nu : Nat → Int32} {fi : Nat → Int32} {se : Nat → Int32} {ju : Nat → Int32} {op : Nat → Int32} {en : Nat} {sm : Nat} {ob : Nat} {be : Nat → Int32} {af : Nat → Int32} {pl : Int32} {rf : Int32} {rp : Int32} {rs : Nat} {ra : Nat} {rb : Int32} {rl : Nat} (kd : Int32) (hs : sm ≤ 40) (ho : ob ≤ 6) (h : sm = 40 ∨ ob = 6) : KM D (tyL cI cZ cJ) l yX1_addOpening wsX1_addOpening 0 0 [.ref (ad 4), .int kd] (wC ad cI cZ tg fn ki nu fi se ju op en sm ob be af pl rf rp rs ra rb rl) (some (.int (-1))) (wC ad cI cZ tg fn ki nu fi se ju op en sm ob be af pl rf rp rs ra rb rl) := by
  refine KM.of (cc := cX1_addOpening) (nL := 2) (ret := (some .int)) (by decide +kernel) rfl (Nat.le_of_ble_eq_true rfl) ?_
  have i1 : ∀ w ∈ u_ws RX1 TX1 9, w ∈ wsX1_addOpening := by decide +kernel
  refine v_aload_n 1 rfl dX1_addOpening_0 rfl rfl ?_
  refine v_get (ci := 1) (C := RX1) (T := TX1) (N := 9) (v := .int (nI sm)) 4 rfl 4 7 dX1_addOpening_1 rfl (Nat.le_of_ble_eq_true rfl) i1 (by decide +kernel) rfl rfl ?_
  refine v_bipush (v := nI 40) 6 rfl dX1_addOpening_4 (by decide) ?_
  refine v_icmp_geN (a := sm) (b := 40) 18 9 rfl dX1_addOpening_6 (by decide) (by omega) (by omega) (fun c6 => ?_) (fun c6 => ?_)
  · refine v_iconst (v := -1) 19 rfl dX1_addOpening_18 (by decide) ?_
    exact v_iret dX1_addOpening_19 rfl rfl rfl
  · refine v_aload_n 10 rfl dX1_addOpening_9 rfl rfl ?_
    refine v_get (ci := 1) (C := RX1) (T := TX1) (N := 9) (v := .int (nI ob)) 13 rfl 4 8 dX1_addOpening_10 rfl (Nat.le_of_ble_eq_true rfl) i1 (by decide +kernel) rfl rfl ?_
    refine v_bipush (v := nI 6) 15 rfl dX1_addOpening_13 (by decide) ?_
    refine v_icmp_ltN (a := ob) (b := 6) 20 18 rfl dX1_addOpening_15 (by decide) (by omega) (by omega) (fun q => False.elim (by omega)) (fun c15 => ?_)
    refine v_iconst (v := -1) 19 rfl dX1_addOpening_18 (by decide) ?_
    exact v_iret dX1_addOpening_19 rfl rfl rfl

set_option maxRecDepth 100000 in
set_option maxHeartbeats 4000000 in
theorem c_lastOpened {D : va_G} {cI cZ cJ : ClassId} {l : Launch} {ad : Nat → Nat} {tg : Nat → Int32} {fn : Nat → Int32} {ki : Nat → Int32} {nu : Nat → Int32} {fi : Nat → Int32} {se : Nat → Int32} {ju : Nat → Int32} {op : Nat → Int32} {en : Nat} {sm : Nat} {ob : Nat} {be : Nat → Int32} {af : Nat → Int32} {pl : Int32} {rf : Int32} {rp : Int32} {rs : Nat} {ra : Nat} {rb : Int32} {rl : Nat} (b : Int32) (h0 : 0 < ob) (ho : ob ≤ 6) (hb : op (ob - 1) = b) : KM D (tyL cI cZ cJ) l yX1_lastOpened wsX1_lastOpened 0 0 [.ref (ad 4)] (wC ad cI cZ tg fn ki nu fi se ju op en sm ob be af pl rf rp rs ra rb rl) (some (.int b)) (wC ad cI cZ tg fn ki nu fi se ju op en sm ob be af pl rf rp rs ra rb rl) := by
  refine KM.of (cc := cX1_lastOpened) (nL := 1) (ret := (some .int)) (by decide +kernel) rfl (Nat.le_of_ble_eq_true rfl) ?_
  have i1 : ∀ w ∈ u_ws RX1 TX1 9, w ∈ wsX1_lastOpened := by decide +kernel
  refine v_aload_n 1 rfl dX1_lastOpened_0 rfl rfl ?_
  refine v_get (ci := 1) (C := RX1) (T := TX1) (N := 9) (v := .int (nI ob)) 4 rfl 4 8 dX1_lastOpened_1 rfl (Nat.le_of_ble_eq_true rfl) i1 (by decide +kernel) rfl rfl ?_
  refine v_if_leN (a := ob) 21 7 rfl dX1_lastOpened_4 (by decide) (by omega) (fun q => False.elim (by omega)) (fun c4 => ?_)
  refine v_aload_n 8 rfl dX1_lastOpened_7 rfl rfl ?_
  refine v_get (ci := 1) (C := RX1) (T := TX1) (N := 9) (v := .ref (ad 10)) 11 rfl 4 5 dX1_lastOpened_8 rfl (Nat.le_of_ble_eq_true rfl) i1 (by decide +kernel) rfl rfl ?_
  refine v_aload_n 12 rfl dX1_lastOpened_11 rfl rfl ?_
  refine v_get (ci := 1) (C := RX1) (T := TX1) (N := 9) (v := .int (nI ob)) 15 rfl 4 8 dX1_lastOpened_12 rfl (Nat.le_of_ble_eq_true rfl) i1 (by decide +kernel) rfl rfl ?_
  refine v_iconst (v := nI 1) 16 rfl dX1_lastOpened_15 (by decide) ?_
  refine v_isubN (a := ob) (b := 1) 17 rfl dX1_lastOpened_16 (by omega) ?_
  refine v_iald (j := ob - 1) (v := b) 18 rfl 10 0 dX1_lastOpened_17 rfl rfl (by omega) (by decide) hb ?_
  refine v_goto 22 dX1_lastOpened_18 (by decide) ?_
  exact v_iret dX1_lastOpened_22 rfl rfl rfl

set_option maxRecDepth 100000 in
set_option maxHeartbeats 4000000 in
theorem c_lastOpenedNo {D : va_G} {cI cZ cJ : ClassId} {l : Launch} {ad : Nat → Nat} {tg : Nat → Int32} {fn : Nat → Int32} {ki : Nat → Int32} {nu : Nat → Int32} {fi : Nat → Int32} {se : Nat → Int32} {ju : Nat → Int32} {op : Nat → Int32} {en : Nat} {sm : Nat} {ob : Nat} {be : Nat → Int32} {af : Nat → Int32} {pl : Int32} {rf : Int32} {rp : Int32} {rs : Nat} {ra : Nat} {rb : Int32} {rl : Nat} (h0 : ob = 0) : KM D (tyL cI cZ cJ) l yX1_lastOpened wsX1_lastOpened 0 0 [.ref (ad 4)] (wC ad cI cZ tg fn ki nu fi se ju op en sm ob be af pl rf rp rs ra rb rl) (some (.int (-1))) (wC ad cI cZ tg fn ki nu fi se ju op en sm ob be af pl rf rp rs ra rb rl) := by
  refine KM.of (cc := cX1_lastOpened) (nL := 1) (ret := (some .int)) (by decide +kernel) rfl (Nat.le_of_ble_eq_true rfl) ?_
  have i1 : ∀ w ∈ u_ws RX1 TX1 9, w ∈ wsX1_lastOpened := by decide +kernel
  refine v_aload_n 1 rfl dX1_lastOpened_0 rfl rfl ?_
  refine v_get (ci := 1) (C := RX1) (T := TX1) (N := 9) (v := .int (nI ob)) 4 rfl 4 8 dX1_lastOpened_1 rfl (Nat.le_of_ble_eq_true rfl) i1 (by decide +kernel) rfl rfl ?_
  refine v_if_leN (a := ob) 21 7 rfl dX1_lastOpened_4 (by decide) (by omega) (fun c4 => ?_) (fun q => False.elim (by omega))
  refine v_iconst (v := -1) 22 rfl dX1_lastOpened_21 (by decide) ?_
  exact v_iret dX1_lastOpened_22 rfl rfl rfl

set_option maxRecDepth 100000 in
set_option maxHeartbeats 4000000 in
theorem c_beginElse0 {D : va_G} {cI cZ cJ : ClassId} {l : Launch} {ad : Nat → Nat} {tg : Nat → Int32} {fn : Nat → Int32} {ki : Nat → Int32} {nu : Nat → Int32} {fi : Nat → Int32} {se : Nat → Int32} {ju : Nat → Int32} {op : Nat → Int32} {en : Nat} {sm : Nat} {ob : Nat} {be : Nat → Int32} {af : Nat → Int32} {pl : Int32} {rf : Int32} {rp : Int32} {rs : Nat} {ra : Nat} {rb : Int32} {rl : Nat} (h0 : ob = 0) : KM D (tyL cI cZ cJ) l yX1_beginElse wsX1_beginElse 2 42 [.ref (ad 4)] (wC ad cI cZ tg fn ki nu fi se ju op en sm ob be af pl rf rp rs ra rb rl) (some (.int (bI false))) (wC ad cI cZ tg fn ki nu fi se ju op en sm ob be af pl rf rp rs ra rb rl) := by
  refine KM.of (cc := cX1_beginElse) (nL := 2) (ret := (some .boolean)) (by decide +kernel) rfl (Nat.le_of_ble_eq_true rfl) ?_
  refine v_aload_n 1 rfl dX1_beginElse_0 rfl rfl ?_
  refine v_callF (n := 0) (q0 := 4) (ci := 1) 4 rfl (c_lastOpenedNo (by omega)) gX1_beginElse_X1_lastOpened rfl (by decide +kernel) rfl ⟨(Nat.le_of_ble_eq_true rfl), (Nat.le_of_ble_eq_true rfl)⟩ rfl (Nat.le_of_ble_eq_true rfl) rfl rfl rfl dX1_beginElse_1 ⟨Nat.zero_le _, Nat.zero_le _⟩ rfl ?_
  refine v_st (st' := [.int (-1)]) rfl ?_
  refine v_istore_n (lv' := [(1, .int (-1)), (0, .ref (ad 4))]) 5 rfl dX1_beginElse_4 rfl (Nat.le_of_ble_eq_true rfl) rfl ?_
  refine v_aload_n 6 rfl dX1_beginElse_5 rfl rfl ?_
  refine v_iload_n 7 rfl dX1_beginElse_6 rfl rfl ?_
  refine v_callF (n := 1) (q0 := 4) (ci := 1) 10 rfl (c_hasEntryM) gX1_beginElse_X1_hasEntry rfl (by decide +kernel) rfl ⟨(Nat.le_of_ble_eq_true rfl), (Nat.le_of_ble_eq_true rfl)⟩ rfl (Nat.le_of_ble_eq_true rfl) rfl rfl rfl dX1_beginElse_7 ⟨Nat.zero_le _, Nat.zero_le _⟩ rfl ?_
  refine v_st (st' := [.int (bI false)]) rfl ?_
  refine v_if_eqB (b := false) 23 13 rfl dX1_beginElse_10 (by decide) (fun c10 => ?_) (fun q => False.elim (by cases q))
  refine v_iconst (v := nI 0) 24 rfl dX1_beginElse_23 (by decide) ?_
  refine v_top (v' := bI false) (by decide) ?_
  exact v_zret dX1_beginElse_24 rfl rfl rfl

set_option maxRecDepth 100000 in
set_option maxHeartbeats 4000000 in
theorem c_beginElseNo {D : va_G} {cI cZ cJ : ClassId} {l : Launch} {ad : Nat → Nat} {tg : Nat → Int32} {fn : Nat → Int32} {ki : Nat → Int32} {nu : Nat → Int32} {fi : Nat → Int32} {se : Nat → Int32} {ju : Nat → Int32} {op : Nat → Int32} {en : Nat} {sm : Nat} {ob : Nat} {be : Nat → Int32} {af : Nat → Int32} {pl : Int32} {rf : Int32} {rp : Int32} {rs : Nat} {ra : Nat} {rb : Int32} {rl : Nat} (b d : Nat) (h0 : 0 < ob) (ho : ob ≤ 6) (hb : op (ob - 1) = nI b) (hbe : b < en) (hen : en ≤ 120) (hk : ki b = nI d) (hd : d < 9) (hd4 : d ≠ 4) : KM D (tyL cI cZ cJ) l yX1_beginElse wsX1_beginElse 2 42 [.ref (ad 4)] (wC ad cI cZ tg fn ki nu fi se ju op en sm ob be af pl rf rp rs ra rb rl) (some (.int (bI false))) (wC ad cI cZ tg fn ki nu fi se ju op en sm ob be af pl rf rp rs ra rb rl) := by
  refine KM.of (cc := cX1_beginElse) (nL := 2) (ret := (some .boolean)) (by decide +kernel) rfl (Nat.le_of_ble_eq_true rfl) ?_
  have i1 : ∀ w ∈ u_ws RX1 TX1 9, w ∈ wsX1_beginElse := by decide +kernel
  refine v_aload_n 1 rfl dX1_beginElse_0 rfl rfl ?_
  refine v_callF (n := 0) (q0 := 4) (ci := 1) 4 rfl (c_lastOpened (nI b) (by omega) (by omega) hb) gX1_beginElse_X1_lastOpened rfl (by decide +kernel) rfl ⟨(Nat.le_of_ble_eq_true rfl), (Nat.le_of_ble_eq_true rfl)⟩ rfl (Nat.le_of_ble_eq_true rfl) rfl rfl rfl dX1_beginElse_1 ⟨Nat.zero_le _, Nat.zero_le _⟩ rfl ?_
  refine v_st (st' := [.int (nI b)]) rfl ?_
  refine v_istore_n (lv' := [(1, .int (nI b)), (0, .ref (ad 4))]) 5 rfl dX1_beginElse_4 rfl (Nat.le_of_ble_eq_true rfl) rfl ?_
  refine v_aload_n 6 rfl dX1_beginElse_5 rfl rfl ?_
  refine v_iload_n 7 rfl dX1_beginElse_6 rfl rfl ?_
  refine v_callF (n := 1) (q0 := 4) (ci := 1) 10 rfl (c_hasEntryT b (by omega) (by omega)) gX1_beginElse_X1_hasEntry rfl (by decide +kernel) rfl ⟨(Nat.le_of_ble_eq_true rfl), (Nat.le_of_ble_eq_true rfl)⟩ rfl (Nat.le_of_ble_eq_true rfl) rfl rfl rfl dX1_beginElse_7 ⟨Nat.zero_le _, Nat.zero_le _⟩ rfl ?_
  refine v_st (st' := [.int (bI true)]) rfl ?_
  refine v_if_eqB (b := true) 23 13 rfl dX1_beginElse_10 (by decide) (fun q => False.elim (by cases q)) (fun c10 => ?_)
  refine v_aload_n 14 rfl dX1_beginElse_13 rfl rfl ?_
  refine v_get (ci := 1) (C := RX1) (T := TX1) (N := 9) (v := .ref (ad 5)) 17 rfl 4 0 dX1_beginElse_14 rfl (Nat.le_of_ble_eq_true rfl) i1 (by decide +kernel) rfl rfl ?_
  refine v_iload_n 18 rfl dX1_beginElse_17 rfl rfl ?_
  refine v_iald (j := b) (v := nI d) 19 rfl 5 0 dX1_beginElse_18 rfl rfl (by omega) (by decide) hk ?_
  refine v_iconst (v := nI 4) 20 rfl dX1_beginElse_19 (by decide) ?_
  refine v_icmp_eqN (a := d) (b := 4) 25 23 rfl dX1_beginElse_20 (by decide) (by omega) (by omega) (fun q => False.elim (by omega)) (fun c20 => ?_)
  refine v_iconst (v := nI 0) 24 rfl dX1_beginElse_23 (by decide) ?_
  refine v_top (v' := bI false) (by decide) ?_
  exact v_zret dX1_beginElse_24 rfl rfl rfl

set_option maxRecDepth 100000 in
set_option maxHeartbeats 4000000 in
theorem c_beginElse {D : va_G} {cI cZ cJ : ClassId} {l : Launch} {ad : Nat → Nat} {tg : Nat → Int32} {fn : Nat → Int32} {ki : Nat → Int32} {nu : Nat → Int32} {fi : Nat → Int32} {se : Nat → Int32} {ju : Nat → Int32} {op : Nat → Int32} {en : Nat} {sm : Nat} {ob : Nat} {be : Nat → Int32} {af : Nat → Int32} {pl : Int32} {rf : Int32} {rp : Int32} {rs : Nat} {ra : Nat} {rb : Int32} {rl : Nat} (b : Nat) (n : Int32) (h0 : 0 < ob) (ho : ob ≤ 6) (hb : op (ob - 1) = nI b) (hbe : b < en) (hen : en < 120) (hk : ki b = nI 4) (hn : nu b = n) : KM D (tyL cI cZ cJ) l yX1_beginElse wsX1_beginElse 2 42 [.ref (ad 4)] (wC ad cI cZ tg fn ki nu fi se ju op en sm ob be af pl rf rp rs ra rb rl) (some (.int (bI true))) (wC ad cI cZ tg fn (upd ki en (nI 5)) (upd nu en n) (upd fi en (nI 0)) (upd se en (nI 0)) (upd ju b (nI (en + 1))) (upd op (ob - 1) (nI en)) (en + 1) sm ob be af pl rf rp rs ra rb rl) := by
  refine KM.of (cc := cX1_beginElse) (nL := 2) (ret := (some .boolean)) (by decide +kernel) rfl (Nat.le_of_ble_eq_true rfl) ?_
  have i1 : ∀ w ∈ u_ws RX1 TX1 9, w ∈ wsX1_beginElse := by decide +kernel
  refine v_aload_n 1 rfl dX1_beginElse_0 rfl rfl ?_
  refine v_callF (n := 0) (q0 := 4) (ci := 1) 4 rfl (c_lastOpened (nI b) (by omega) (by omega) hb) gX1_beginElse_X1_lastOpened rfl (by decide +kernel) rfl ⟨(Nat.le_of_ble_eq_true rfl), (Nat.le_of_ble_eq_true rfl)⟩ rfl (Nat.le_of_ble_eq_true rfl) rfl rfl rfl dX1_beginElse_1 ⟨Nat.zero_le _, Nat.zero_le _⟩ rfl ?_
  refine v_st (st' := [.int (nI b)]) rfl ?_
  refine v_istore_n (lv' := [(1, .int (nI b)), (0, .ref (ad 4))]) 5 rfl dX1_beginElse_4 rfl (Nat.le_of_ble_eq_true rfl) rfl ?_
  refine v_aload_n 6 rfl dX1_beginElse_5 rfl rfl ?_
  refine v_iload_n 7 rfl dX1_beginElse_6 rfl rfl ?_
  refine v_callF (n := 1) (q0 := 4) (ci := 1) 10 rfl (c_hasEntryT b (by omega) (by omega)) gX1_beginElse_X1_hasEntry rfl (by decide +kernel) rfl ⟨(Nat.le_of_ble_eq_true rfl), (Nat.le_of_ble_eq_true rfl)⟩ rfl (Nat.le_of_ble_eq_true rfl) rfl rfl rfl dX1_beginElse_7 ⟨Nat.zero_le _, Nat.zero_le _⟩ rfl ?_
  refine v_st (st' := [.int (bI true)]) rfl ?_
  refine v_if_eqB (b := true) 23 13 rfl dX1_beginElse_10 (by decide) (fun q => False.elim (by cases q)) (fun c10 => ?_)
  refine v_aload_n 14 rfl dX1_beginElse_13 rfl rfl ?_
  refine v_get (ci := 1) (C := RX1) (T := TX1) (N := 9) (v := .ref (ad 5)) 17 rfl 4 0 dX1_beginElse_14 rfl (Nat.le_of_ble_eq_true rfl) i1 (by decide +kernel) rfl rfl ?_
  refine v_iload_n 18 rfl dX1_beginElse_17 rfl rfl ?_
  refine v_iald (j := b) (v := nI 4) 19 rfl 5 0 dX1_beginElse_18 rfl rfl (by omega) (by decide) hk ?_
  refine v_iconst (v := nI 4) 20 rfl dX1_beginElse_19 (by decide) ?_
  refine v_icmp_eqN (a := 4) (b := 4) 25 23 rfl dX1_beginElse_20 (by decide) (by omega) (by omega) (fun c20 => ?_) (fun q => False.elim (by omega))
  refine v_aload_n 26 rfl dX1_beginElse_25 rfl rfl ?_
  refine v_get (ci := 1) (C := RX1) (T := TX1) (N := 9) (v := .ref (ad 10)) 29 rfl 4 5 dX1_beginElse_26 rfl (Nat.le_of_ble_eq_true rfl) i1 (by decide +kernel) rfl rfl ?_
  refine v_aload_n 30 rfl dX1_beginElse_29 rfl rfl ?_
  refine v_get (ci := 1) (C := RX1) (T := TX1) (N := 9) (v := .int (nI ob)) 33 rfl 4 8 dX1_beginElse_30 rfl (Nat.le_of_ble_eq_true rfl) i1 (by decide +kernel) rfl rfl ?_
  refine v_iconst (v := nI 1) 34 rfl dX1_beginElse_33 (by decide) ?_
  refine v_isubN (a := ob) (b := 1) 35 rfl dX1_beginElse_34 (by omega) ?_
  refine v_aload_n 36 rfl dX1_beginElse_35 rfl rfl ?_
  refine v_get (ci := 1) (C := RX1) (T := TX1) (N := 9) (v := .int (nI en)) 39 rfl 4 6 dX1_beginElse_36 rfl (Nat.le_of_ble_eq_true rfl) i1 (by decide +kernel) rfl rfl ?_
  refine v_iast (j := ob - 1) (w' := wC ad cI cZ tg fn ki nu fi se ju (upd op (ob - 1) (nI en)) en sm ob be af pl rf rp rs ra rb rl) 40 rfl 10 0 dX1_beginElse_39 rfl rfl (by omega) (by decide) rfl ?_
  refine v_aload_n 41 rfl dX1_beginElse_40 rfl rfl ?_
  refine v_iconst (v := nI 5) 42 rfl dX1_beginElse_41 (by decide) ?_
  refine v_aload_n 43 rfl dX1_beginElse_42 rfl rfl ?_
  refine v_get (ci := 1) (C := RX1) (T := TX1) (N := 9) (v := .ref (ad 6)) 46 rfl 4 1 dX1_beginElse_43 rfl (Nat.le_of_ble_eq_true rfl) i1 (by decide +kernel) rfl rfl ?_
  refine v_iload_n 47 rfl dX1_beginElse_46 rfl rfl ?_
  refine v_iald (j := b) (v := n) 48 rfl 6 0 dX1_beginElse_47 rfl rfl (by omega) (by decide) hn ?_
  refine v_iconst (v := nI 0) 49 rfl dX1_beginElse_48 (by decide) ?_
  refine v_iconst (v := nI 0) 50 rfl dX1_beginElse_49 (by decide) ?_
  refine v_callF (n := 4) (q0 := 4) (ci := 1) 53 rfl (c_addEntry (nI 5) n (nI 0) (nI 0) (by omega)) gX1_beginElse_X1_addEntry rfl (by decide +kernel) rfl ⟨(Nat.le_of_ble_eq_true rfl), (Nat.le_of_ble_eq_true rfl)⟩ rfl (Nat.le_of_ble_eq_true rfl) rfl rfl rfl dX1_beginElse_50 ⟨Nat.zero_le _, Nat.zero_le _⟩ rfl ?_
  refine v_st (st' := []) rfl ?_
  refine v_aload_n 54 rfl dX1_beginElse_53 rfl rfl ?_
  refine v_get (ci := 1) (C := RX1) (T := TX1) (N := 9) (v := .ref (ad 9)) 57 rfl 4 4 dX1_beginElse_54 rfl (Nat.le_of_ble_eq_true rfl) i1 (by decide +kernel) rfl rfl ?_
  refine v_iload_n 58 rfl dX1_beginElse_57 rfl rfl ?_
  refine v_aload_n 59 rfl dX1_beginElse_58 rfl rfl ?_
  refine v_get (ci := 1) (C := RX1) (T := TX1) (N := 9) (v := .int (nI (en + 1))) 62 rfl 4 6 dX1_beginElse_59 rfl (Nat.le_of_ble_eq_true rfl) i1 (by decide +kernel) rfl rfl ?_
  refine v_iast (j := b) (w' := wC ad cI cZ tg fn (upd ki en (nI 5)) (upd nu en n) (upd fi en (nI 0)) (upd se en (nI 0)) (upd ju b (nI (en + 1))) (upd op (ob - 1) (nI en)) (en + 1) sm ob be af pl rf rp rs ra rb rl) 63 rfl 9 0 dX1_beginElse_62 rfl rfl (by omega) (by decide) rfl ?_
  refine v_iconst (v := nI 1) 64 rfl dX1_beginElse_63 (by decide) ?_
  refine v_top (v' := bI true) (by decide) ?_
  exact v_zret dX1_beginElse_64 rfl rfl rfl

set_option maxRecDepth 100000 in
set_option maxHeartbeats 4000000 in
theorem c_endBlock0 {D : va_G} {cI cZ cJ : ClassId} {l : Launch} {ad : Nat → Nat} {tg : Nat → Int32} {fn : Nat → Int32} {ki : Nat → Int32} {nu : Nat → Int32} {fi : Nat → Int32} {se : Nat → Int32} {ju : Nat → Int32} {op : Nat → Int32} {en : Nat} {sm : Nat} {ob : Nat} {be : Nat → Int32} {af : Nat → Int32} {pl : Int32} {rf : Int32} {rp : Int32} {rs : Nat} {ra : Nat} {rb : Int32} {rl : Nat} (h0 : ob = 0) : KM D (tyL cI cZ cJ) l yX1_endBlock wsX1_endBlock 3 63 [.ref (ad 4)] (wC ad cI cZ tg fn ki nu fi se ju op en sm ob be af pl rf rp rs ra rb rl) (some (.int (bI false))) (wC ad cI cZ tg fn ki nu fi se ju op en sm ob be af pl rf rp rs ra rb rl) := by
  refine KM.of (cc := cX1_endBlock) (nL := 3) (ret := (some .boolean)) (by decide +kernel) rfl (Nat.le_of_ble_eq_true rfl) ?_
  refine v_aload_n 1 rfl dX1_endBlock_0 rfl rfl ?_
  refine v_callF (n := 0) (q0 := 4) (ci := 1) 4 rfl (c_beginElse0 (by omega)) gX1_endBlock_X1_beginElse rfl (by decide +kernel) rfl ⟨(Nat.le_of_ble_eq_true rfl), (Nat.le_of_ble_eq_true rfl)⟩ rfl (Nat.le_of_ble_eq_true rfl) rfl rfl rfl dX1_endBlock_1 ⟨Nat.zero_le _, Nat.zero_le _⟩ rfl ?_
  refine v_st (st' := [.int (bI false)]) rfl ?_
  refine v_pop 5 rfl dX1_endBlock_4 rfl ?_
  refine v_aload_n 6 rfl dX1_endBlock_5 rfl rfl ?_
  refine v_callF (n := 0) (q0 := 4) (ci := 1) 9 rfl (c_lastOpenedNo (by omega)) gX1_endBlock_X1_lastOpened rfl (by decide +kernel) rfl ⟨(Nat.le_of_ble_eq_true rfl), (Nat.le_of_ble_eq_true rfl)⟩ rfl (Nat.le_of_ble_eq_true rfl) rfl rfl rfl dX1_endBlock_6 ⟨Nat.zero_le _, Nat.zero_le _⟩ rfl ?_
  refine v_st (st' := [.int (-1)]) rfl ?_
  refine v_istore_n (lv' := [(1, .int (-1)), (0, .ref (ad 4))]) 10 rfl dX1_endBlock_9 rfl (Nat.le_of_ble_eq_true rfl) rfl ?_
  refine v_aload_n 11 rfl dX1_endBlock_10 rfl rfl ?_
  refine v_iload_n 12 rfl dX1_endBlock_11 rfl rfl ?_
  refine v_callF (n := 1) (q0 := 4) (ci := 1) 15 rfl (c_hasEntryM) gX1_endBlock_X1_hasEntry rfl (by decide +kernel) rfl ⟨(Nat.le_of_ble_eq_true rfl), (Nat.le_of_ble_eq_true rfl)⟩ rfl (Nat.le_of_ble_eq_true rfl) rfl rfl rfl dX1_endBlock_12 ⟨Nat.zero_le _, Nat.zero_le _⟩ rfl ?_
  refine v_st (st' := [.int (bI false)]) rfl ?_
  refine v_if_neB (b := false) 20 18 rfl dX1_endBlock_15 (by decide) (fun q => False.elim (by cases q)) (fun c15 => ?_)
  refine v_iconst (v := nI 0) 19 rfl dX1_endBlock_18 (by decide) ?_
  refine v_top (v' := bI false) (by decide) ?_
  exact v_zret dX1_endBlock_19 rfl rfl rfl

set_option maxRecDepth 100000 in
set_option maxHeartbeats 4000000 in
theorem c_endBlockW {D : va_G} {cI cZ cJ : ClassId} {l : Launch} {ad : Nat → Nat} {tg : Nat → Int32} {fn : Nat → Int32} {ki : Nat → Int32} {nu : Nat → Int32} {fi : Nat → Int32} {se : Nat → Int32} {ju : Nat → Int32} {op : Nat → Int32} {en : Nat} {sm : Nat} {ob : Nat} {be : Nat → Int32} {af : Nat → Int32} {pl : Int32} {rf : Int32} {rp : Int32} {rs : Nat} {ra : Nat} {rb : Int32} {rl : Nat} (b : Nat) (n : Int32) (h0 : 0 < ob) (ho : ob ≤ 6) (hb : op (ob - 1) = nI b) (hbe : b < en) (hen : en < 120) (hk : ki b = nI 7) (hn : nu b = n) : KM D (tyL cI cZ cJ) l yX1_endBlock wsX1_endBlock 3 63 [.ref (ad 4)] (wC ad cI cZ tg fn ki nu fi se ju op en sm ob be af pl rf rp rs ra rb rl) (some (.int (bI true))) (wC ad cI cZ tg fn (upd ki en (nI 8)) (upd nu en n) (upd fi en (nI 0)) (upd se en (nI 0)) (upd (upd ju b (nI (en + 1))) en (nI b)) op (en + 1) sm (ob - 1) be af pl rf rp rs ra rb rl) := by
  refine KM.of (cc := cX1_endBlock) (nL := 3) (ret := (some .boolean)) (by decide +kernel) rfl (Nat.le_of_ble_eq_true rfl) ?_
  have i1 : ∀ w ∈ u_ws RX1 TX1 9, w ∈ wsX1_endBlock := by decide +kernel
  refine v_aload_n 1 rfl dX1_endBlock_0 rfl rfl ?_
  refine v_callF (n := 0) (q0 := 4) (ci := 1) 4 rfl (c_beginElseNo b 7 (by omega) (by omega) hb (by omega) (by omega) hk (by omega) (by omega)) gX1_endBlock_X1_beginElse rfl (by decide +kernel) rfl ⟨(Nat.le_of_ble_eq_true rfl), (Nat.le_of_ble_eq_true rfl)⟩ rfl (Nat.le_of_ble_eq_true rfl) rfl rfl rfl dX1_endBlock_1 ⟨Nat.zero_le _, Nat.zero_le _⟩ rfl ?_
  refine v_st (st' := [.int (bI false)]) rfl ?_
  refine v_pop 5 rfl dX1_endBlock_4 rfl ?_
  refine v_aload_n 6 rfl dX1_endBlock_5 rfl rfl ?_
  refine v_callF (n := 0) (q0 := 4) (ci := 1) 9 rfl (c_lastOpened (nI b) (by omega) (by omega) hb) gX1_endBlock_X1_lastOpened rfl (by decide +kernel) rfl ⟨(Nat.le_of_ble_eq_true rfl), (Nat.le_of_ble_eq_true rfl)⟩ rfl (Nat.le_of_ble_eq_true rfl) rfl rfl rfl dX1_endBlock_6 ⟨Nat.zero_le _, Nat.zero_le _⟩ rfl ?_
  refine v_st (st' := [.int (nI b)]) rfl ?_
  refine v_istore_n (lv' := [(1, .int (nI b)), (0, .ref (ad 4))]) 10 rfl dX1_endBlock_9 rfl (Nat.le_of_ble_eq_true rfl) rfl ?_
  refine v_aload_n 11 rfl dX1_endBlock_10 rfl rfl ?_
  refine v_iload_n 12 rfl dX1_endBlock_11 rfl rfl ?_
  refine v_callF (n := 1) (q0 := 4) (ci := 1) 15 rfl (c_hasEntryT b (by omega) (by omega)) gX1_endBlock_X1_hasEntry rfl (by decide +kernel) rfl ⟨(Nat.le_of_ble_eq_true rfl), (Nat.le_of_ble_eq_true rfl)⟩ rfl (Nat.le_of_ble_eq_true rfl) rfl rfl rfl dX1_endBlock_12 ⟨Nat.zero_le _, Nat.zero_le _⟩ rfl ?_
  refine v_st (st' := [.int (bI true)]) rfl ?_
  refine v_if_neB (b := true) 20 18 rfl dX1_endBlock_15 (by decide) (fun c15 => ?_) (fun q => False.elim (by cases q))
  refine v_aload_n 21 rfl dX1_endBlock_20 rfl rfl ?_
  refine v_get (ci := 1) (C := RX1) (T := TX1) (N := 9) (v := .int (nI en)) 24 rfl 4 6 dX1_endBlock_21 rfl (Nat.le_of_ble_eq_true rfl) i1 (by decide +kernel) rfl rfl ?_
  refine v_istore_n (lv' := [(2, .int (nI en)), (1, .int (nI b)), (0, .ref (ad 4))]) 25 rfl dX1_endBlock_24 rfl (Nat.le_of_ble_eq_true rfl) rfl ?_
  refine v_aload_n 26 rfl dX1_endBlock_25 rfl rfl ?_
  refine v_aload_n 27 rfl dX1_endBlock_26 rfl rfl ?_
  refine v_get (ci := 1) (C := RX1) (T := TX1) (N := 9) (v := .ref (ad 5)) 30 rfl 4 0 dX1_endBlock_27 rfl (Nat.le_of_ble_eq_true rfl) i1 (by decide +kernel) rfl rfl ?_
  refine v_iload_n 31 rfl dX1_endBlock_30 rfl rfl ?_
  refine v_iald (j := b) (v := nI 7) 32 rfl 5 0 dX1_endBlock_31 rfl rfl (by omega) (by decide) hk ?_
  refine v_bipush (v := nI 7) 34 rfl dX1_endBlock_32 (by decide) ?_
  refine v_icmp_neN (a := 7) (b := 7) 42 37 rfl dX1_endBlock_34 (by decide) (by omega) (by omega) (fun q => False.elim (by omega)) (fun c34 => ?_)
  refine v_bipush (v := nI 8) 39 rfl dX1_endBlock_37 (by decide) ?_
  refine v_goto 44 dX1_endBlock_39 (by decide) ?_
  refine v_aload_n 45 rfl dX1_endBlock_44 rfl rfl ?_
  refine v_get (ci := 1) (C := RX1) (T := TX1) (N := 9) (v := .ref (ad 6)) 48 rfl 4 1 dX1_endBlock_45 rfl (Nat.le_of_ble_eq_true rfl) i1 (by decide +kernel) rfl rfl ?_
  refine v_iload_n 49 rfl dX1_endBlock_48 rfl rfl ?_
  refine v_iald (j := b) (v := n) 50 rfl 6 0 dX1_endBlock_49 rfl rfl (by omega) (by decide) hn ?_
  refine v_iconst (v := nI 0) 51 rfl dX1_endBlock_50 (by decide) ?_
  refine v_iconst (v := nI 0) 52 rfl dX1_endBlock_51 (by decide) ?_
  refine v_callF (n := 4) (q0 := 4) (ci := 1) 55 rfl (c_addEntry (nI 8) n (nI 0) (nI 0) (by omega)) gX1_endBlock_X1_addEntry rfl (by decide +kernel) rfl ⟨(Nat.le_of_ble_eq_true rfl), (Nat.le_of_ble_eq_true rfl)⟩ rfl (Nat.le_of_ble_eq_true rfl) rfl rfl rfl dX1_endBlock_52 ⟨Nat.zero_le _, Nat.zero_le _⟩ rfl ?_
  refine v_st (st' := []) rfl ?_
  refine v_aload_n 56 rfl dX1_endBlock_55 rfl rfl ?_
  refine v_get (ci := 1) (C := RX1) (T := TX1) (N := 9) (v := .ref (ad 9)) 59 rfl 4 4 dX1_endBlock_56 rfl (Nat.le_of_ble_eq_true rfl) i1 (by decide +kernel) rfl rfl ?_
  refine v_iload_n 60 rfl dX1_endBlock_59 rfl rfl ?_
  refine v_aload_n 61 rfl dX1_endBlock_60 rfl rfl ?_
  refine v_get (ci := 1) (C := RX1) (T := TX1) (N := 9) (v := .int (nI (en + 1))) 64 rfl 4 6 dX1_endBlock_61 rfl (Nat.le_of_ble_eq_true rfl) i1 (by decide +kernel) rfl rfl ?_
  refine v_iast (j := b) (w' := wC ad cI cZ tg fn (upd ki en (nI 8)) (upd nu en n) (upd fi en (nI 0)) (upd se en (nI 0)) (upd ju b (nI (en + 1))) op (en + 1) sm ob be af pl rf rp rs ra rb rl) 65 rfl 9 0 dX1_endBlock_64 rfl rfl (by omega) (by decide) rfl ?_
  refine v_aload_n 66 rfl dX1_endBlock_65 rfl rfl ?_
  refine v_get (ci := 1) (C := RX1) (T := TX1) (N := 9) (v := .ref (ad 5)) 69 rfl 4 0 dX1_endBlock_66 rfl (Nat.le_of_ble_eq_true rfl) i1 (by decide +kernel) rfl rfl ?_
  refine v_iload_n 70 rfl dX1_endBlock_69 rfl rfl ?_
  refine v_iald (j := b) (v := nI 7) 71 rfl 5 0 dX1_endBlock_70 rfl rfl (by omega) (by decide) (by rw [pk_un (by omega)]; exact hk) ?_
  refine v_bipush (v := nI 7) 73 rfl dX1_endBlock_71 (by decide) ?_
  refine v_icmp_neN (a := 7) (b := 7) 91 76 rfl dX1_endBlock_73 (by decide) (by omega) (by omega) (fun q => False.elim (by omega)) (fun c73 => ?_)
  refine v_aload_n 77 rfl dX1_endBlock_76 rfl rfl ?_
  refine v_iload_n 78 rfl dX1_endBlock_77 rfl rfl ?_
  refine v_callF (n := 1) (q0 := 4) (ci := 1) 81 rfl (c_hasEntryT en (by omega) (by omega)) gX1_endBlock_X1_hasEntry rfl (by decide +kernel) rfl ⟨(Nat.le_of_ble_eq_true rfl), (Nat.le_of_ble_eq_true rfl)⟩ rfl (Nat.le_of_ble_eq_true rfl) rfl rfl rfl dX1_endBlock_78 ⟨Nat.zero_le _, Nat.zero_le _⟩ rfl ?_
  refine v_st (st' := [.int (bI true)]) rfl ?_
  refine v_if_eqB (b := true) 91 84 rfl dX1_endBlock_81 (by decide) (fun q => False.elim (by cases q)) (fun c81 => ?_)
  refine v_aload_n 85 rfl dX1_endBlock_84 rfl rfl ?_
  refine v_get (ci := 1) (C := RX1) (T := TX1) (N := 9) (v := .ref (ad 9)) 88 rfl 4 4 dX1_endBlock_85 rfl (Nat.le_of_ble_eq_true rfl) i1 (by decide +kernel) rfl rfl ?_
  refine v_iload_n 89 rfl dX1_endBlock_88 rfl rfl ?_
  refine v_iload_n 90 rfl dX1_endBlock_89 rfl rfl ?_
  refine v_iast (j := en) (w' := wC ad cI cZ tg fn (upd ki en (nI 8)) (upd nu en n) (upd fi en (nI 0)) (upd se en (nI 0)) (upd (upd ju b (nI (en + 1))) en (nI b)) op (en + 1) sm ob be af pl rf rp rs ra rb rl) 91 rfl 9 0 dX1_endBlock_90 rfl rfl (by omega) (by decide) rfl ?_
  refine v_aload_n 92 rfl dX1_endBlock_91 rfl rfl ?_
  refine v_dup 93 rfl dX1_endBlock_92 rfl ?_
  refine v_get (ci := 1) (C := RX1) (T := TX1) (N := 9) (v := .int (nI ob)) 96 rfl 4 8 dX1_endBlock_93 rfl (Nat.le_of_ble_eq_true rfl) i1 (by decide +kernel) rfl rfl ?_
  refine v_iconst (v := nI 1) 97 rfl dX1_endBlock_96 (by decide) ?_
  refine v_isubN (a := ob) (b := 1) 98 rfl dX1_endBlock_97 (by omega) ?_
  refine v_put (ci := 1) (C := RX1) (T := TX1) (ty0 := tyX1) (N := 9) (ty := .int) (w' := wC ad cI cZ tg fn (upd ki en (nI 8)) (upd nu en n) (upd fi en (nI 0)) (upd se en (nI 0)) (upd (upd ju b (nI (en + 1))) en (nI b)) op (en + 1) sm (ob - 1) be af pl rf rp rs ra rb rl) 101 rfl 4 8 dX1_endBlock_98 rfl (Nat.le_of_ble_eq_true rfl) i1 tyX1_ok nmX1 (by decide +kernel) rfl (by decide +kernel) rfl rfl rfl (Nat.le_of_ble_eq_true rfl) rfl ?_
  refine v_iconst (v := nI 1) 102 rfl dX1_endBlock_101 (by decide) ?_
  refine v_top (v' := bI true) (by decide) ?_
  exact v_zret dX1_endBlock_102 rfl rfl rfl

set_option maxRecDepth 100000 in
set_option maxHeartbeats 4000000 in
theorem c_endBlockE {D : va_G} {cI cZ cJ : ClassId} {l : Launch} {ad : Nat → Nat} {tg : Nat → Int32} {fn : Nat → Int32} {ki : Nat → Int32} {nu : Nat → Int32} {fi : Nat → Int32} {se : Nat → Int32} {ju : Nat → Int32} {op : Nat → Int32} {en : Nat} {sm : Nat} {ob : Nat} {be : Nat → Int32} {af : Nat → Int32} {pl : Int32} {rf : Int32} {rp : Int32} {rs : Nat} {ra : Nat} {rb : Int32} {rl : Nat} (b : Nat) (n : Int32) (h0 : 0 < ob) (ho : ob ≤ 6) (hb : op (ob - 1) = nI b) (hbe : b < en) (hen : en < 120) (hk : ki b = nI 5) (hn : nu b = n) : KM D (tyL cI cZ cJ) l yX1_endBlock wsX1_endBlock 3 63 [.ref (ad 4)] (wC ad cI cZ tg fn ki nu fi se ju op en sm ob be af pl rf rp rs ra rb rl) (some (.int (bI true))) (wC ad cI cZ tg fn (upd ki en (nI 6)) (upd nu en n) (upd fi en (nI 0)) (upd se en (nI 0)) (upd ju b (nI (en + 1))) op (en + 1) sm (ob - 1) be af pl rf rp rs ra rb rl) := by
  refine KM.of (cc := cX1_endBlock) (nL := 3) (ret := (some .boolean)) (by decide +kernel) rfl (Nat.le_of_ble_eq_true rfl) ?_
  have i1 : ∀ w ∈ u_ws RX1 TX1 9, w ∈ wsX1_endBlock := by decide +kernel
  refine v_aload_n 1 rfl dX1_endBlock_0 rfl rfl ?_
  refine v_callF (n := 0) (q0 := 4) (ci := 1) 4 rfl (c_beginElseNo b 5 (by omega) (by omega) hb (by omega) (by omega) hk (by omega) (by omega)) gX1_endBlock_X1_beginElse rfl (by decide +kernel) rfl ⟨(Nat.le_of_ble_eq_true rfl), (Nat.le_of_ble_eq_true rfl)⟩ rfl (Nat.le_of_ble_eq_true rfl) rfl rfl rfl dX1_endBlock_1 ⟨Nat.zero_le _, Nat.zero_le _⟩ rfl ?_
  refine v_st (st' := [.int (bI false)]) rfl ?_
  refine v_pop 5 rfl dX1_endBlock_4 rfl ?_
  refine v_aload_n 6 rfl dX1_endBlock_5 rfl rfl ?_
  refine v_callF (n := 0) (q0 := 4) (ci := 1) 9 rfl (c_lastOpened (nI b) (by omega) (by omega) hb) gX1_endBlock_X1_lastOpened rfl (by decide +kernel) rfl ⟨(Nat.le_of_ble_eq_true rfl), (Nat.le_of_ble_eq_true rfl)⟩ rfl (Nat.le_of_ble_eq_true rfl) rfl rfl rfl dX1_endBlock_6 ⟨Nat.zero_le _, Nat.zero_le _⟩ rfl ?_
  refine v_st (st' := [.int (nI b)]) rfl ?_
  refine v_istore_n (lv' := [(1, .int (nI b)), (0, .ref (ad 4))]) 10 rfl dX1_endBlock_9 rfl (Nat.le_of_ble_eq_true rfl) rfl ?_
  refine v_aload_n 11 rfl dX1_endBlock_10 rfl rfl ?_
  refine v_iload_n 12 rfl dX1_endBlock_11 rfl rfl ?_
  refine v_callF (n := 1) (q0 := 4) (ci := 1) 15 rfl (c_hasEntryT b (by omega) (by omega)) gX1_endBlock_X1_hasEntry rfl (by decide +kernel) rfl ⟨(Nat.le_of_ble_eq_true rfl), (Nat.le_of_ble_eq_true rfl)⟩ rfl (Nat.le_of_ble_eq_true rfl) rfl rfl rfl dX1_endBlock_12 ⟨Nat.zero_le _, Nat.zero_le _⟩ rfl ?_
  refine v_st (st' := [.int (bI true)]) rfl ?_
  refine v_if_neB (b := true) 20 18 rfl dX1_endBlock_15 (by decide) (fun c15 => ?_) (fun q => False.elim (by cases q))
  refine v_aload_n 21 rfl dX1_endBlock_20 rfl rfl ?_
  refine v_get (ci := 1) (C := RX1) (T := TX1) (N := 9) (v := .int (nI en)) 24 rfl 4 6 dX1_endBlock_21 rfl (Nat.le_of_ble_eq_true rfl) i1 (by decide +kernel) rfl rfl ?_
  refine v_istore_n (lv' := [(2, .int (nI en)), (1, .int (nI b)), (0, .ref (ad 4))]) 25 rfl dX1_endBlock_24 rfl (Nat.le_of_ble_eq_true rfl) rfl ?_
  refine v_aload_n 26 rfl dX1_endBlock_25 rfl rfl ?_
  refine v_aload_n 27 rfl dX1_endBlock_26 rfl rfl ?_
  refine v_get (ci := 1) (C := RX1) (T := TX1) (N := 9) (v := .ref (ad 5)) 30 rfl 4 0 dX1_endBlock_27 rfl (Nat.le_of_ble_eq_true rfl) i1 (by decide +kernel) rfl rfl ?_
  refine v_iload_n 31 rfl dX1_endBlock_30 rfl rfl ?_
  refine v_iald (j := b) (v := nI 5) 32 rfl 5 0 dX1_endBlock_31 rfl rfl (by omega) (by decide) hk ?_
  refine v_bipush (v := nI 7) 34 rfl dX1_endBlock_32 (by decide) ?_
  refine v_icmp_neN (a := 5) (b := 7) 42 37 rfl dX1_endBlock_34 (by decide) (by omega) (by omega) (fun c34 => ?_) (fun q => False.elim (by omega))
  refine v_bipush (v := nI 6) 44 rfl dX1_endBlock_42 (by decide) ?_
  refine v_aload_n 45 rfl dX1_endBlock_44 rfl rfl ?_
  refine v_get (ci := 1) (C := RX1) (T := TX1) (N := 9) (v := .ref (ad 6)) 48 rfl 4 1 dX1_endBlock_45 rfl (Nat.le_of_ble_eq_true rfl) i1 (by decide +kernel) rfl rfl ?_
  refine v_iload_n 49 rfl dX1_endBlock_48 rfl rfl ?_
  refine v_iald (j := b) (v := n) 50 rfl 6 0 dX1_endBlock_49 rfl rfl (by omega) (by decide) hn ?_
  refine v_iconst (v := nI 0) 51 rfl dX1_endBlock_50 (by decide) ?_
  refine v_iconst (v := nI 0) 52 rfl dX1_endBlock_51 (by decide) ?_
  refine v_callF (n := 4) (q0 := 4) (ci := 1) 55 rfl (c_addEntry (nI 6) n (nI 0) (nI 0) (by omega)) gX1_endBlock_X1_addEntry rfl (by decide +kernel) rfl ⟨(Nat.le_of_ble_eq_true rfl), (Nat.le_of_ble_eq_true rfl)⟩ rfl (Nat.le_of_ble_eq_true rfl) rfl rfl rfl dX1_endBlock_52 ⟨Nat.zero_le _, Nat.zero_le _⟩ rfl ?_
  refine v_st (st' := []) rfl ?_
  refine v_aload_n 56 rfl dX1_endBlock_55 rfl rfl ?_
  refine v_get (ci := 1) (C := RX1) (T := TX1) (N := 9) (v := .ref (ad 9)) 59 rfl 4 4 dX1_endBlock_56 rfl (Nat.le_of_ble_eq_true rfl) i1 (by decide +kernel) rfl rfl ?_
  refine v_iload_n 60 rfl dX1_endBlock_59 rfl rfl ?_
  refine v_aload_n 61 rfl dX1_endBlock_60 rfl rfl ?_
  refine v_get (ci := 1) (C := RX1) (T := TX1) (N := 9) (v := .int (nI (en + 1))) 64 rfl 4 6 dX1_endBlock_61 rfl (Nat.le_of_ble_eq_true rfl) i1 (by decide +kernel) rfl rfl ?_
  refine v_iast (j := b) (w' := wC ad cI cZ tg fn (upd ki en (nI 6)) (upd nu en n) (upd fi en (nI 0)) (upd se en (nI 0)) (upd ju b (nI (en + 1))) op (en + 1) sm ob be af pl rf rp rs ra rb rl) 65 rfl 9 0 dX1_endBlock_64 rfl rfl (by omega) (by decide) rfl ?_
  refine v_aload_n 66 rfl dX1_endBlock_65 rfl rfl ?_
  refine v_get (ci := 1) (C := RX1) (T := TX1) (N := 9) (v := .ref (ad 5)) 69 rfl 4 0 dX1_endBlock_66 rfl (Nat.le_of_ble_eq_true rfl) i1 (by decide +kernel) rfl rfl ?_
  refine v_iload_n 70 rfl dX1_endBlock_69 rfl rfl ?_
  refine v_iald (j := b) (v := nI 5) 71 rfl 5 0 dX1_endBlock_70 rfl rfl (by omega) (by decide) (by rw [pk_un (by omega)]; exact hk) ?_
  refine v_bipush (v := nI 7) 73 rfl dX1_endBlock_71 (by decide) ?_
  refine v_icmp_neN (a := 5) (b := 7) 91 76 rfl dX1_endBlock_73 (by decide) (by omega) (by omega) (fun c73 => ?_) (fun q => False.elim (by omega))
  refine v_aload_n 92 rfl dX1_endBlock_91 rfl rfl ?_
  refine v_dup 93 rfl dX1_endBlock_92 rfl ?_
  refine v_get (ci := 1) (C := RX1) (T := TX1) (N := 9) (v := .int (nI ob)) 96 rfl 4 8 dX1_endBlock_93 rfl (Nat.le_of_ble_eq_true rfl) i1 (by decide +kernel) rfl rfl ?_
  refine v_iconst (v := nI 1) 97 rfl dX1_endBlock_96 (by decide) ?_
  refine v_isubN (a := ob) (b := 1) 98 rfl dX1_endBlock_97 (by omega) ?_
  refine v_put (ci := 1) (C := RX1) (T := TX1) (ty0 := tyX1) (N := 9) (ty := .int) (w' := wC ad cI cZ tg fn (upd ki en (nI 6)) (upd nu en n) (upd fi en (nI 0)) (upd se en (nI 0)) (upd ju b (nI (en + 1))) op (en + 1) sm (ob - 1) be af pl rf rp rs ra rb rl) 101 rfl 4 8 dX1_endBlock_98 rfl (Nat.le_of_ble_eq_true rfl) i1 tyX1_ok nmX1 (by decide +kernel) rfl (by decide +kernel) rfl rfl rfl (Nat.le_of_ble_eq_true rfl) rfl ?_
  refine v_iconst (v := nI 1) 102 rfl dX1_endBlock_101 (by decide) ?_
  refine v_top (v' := bI true) (by decide) ?_
  exact v_zret dX1_endBlock_102 rfl rfl rfl

set_option maxRecDepth 100000 in
set_option maxHeartbeats 4000000 in
theorem c_endBlockI {D : va_G} {cI cZ cJ : ClassId} {l : Launch} {ad : Nat → Nat} {tg : Nat → Int32} {fn : Nat → Int32} {ki : Nat → Int32} {nu : Nat → Int32} {fi : Nat → Int32} {se : Nat → Int32} {ju : Nat → Int32} {op : Nat → Int32} {en : Nat} {sm : Nat} {ob : Nat} {be : Nat → Int32} {af : Nat → Int32} {pl : Int32} {rf : Int32} {rp : Int32} {rs : Nat} {ra : Nat} {rb : Int32} {rl : Nat} (b : Nat) (n : Int32) (h0 : 0 < ob) (ho : ob ≤ 6) (hb : op (ob - 1) = nI b) (hbe : b < en) (hen : en + 1 < 120) (hk : ki b = nI 4) (hn : nu b = n) : KM D (tyL cI cZ cJ) l yX1_endBlock wsX1_endBlock 3 63 [.ref (ad 4)] (wC ad cI cZ tg fn ki nu fi se ju op en sm ob be af pl rf rp rs ra rb rl) (some (.int (bI true))) (wC ad cI cZ tg fn (upd (upd ki en (nI 5)) (en + 1) (nI 6)) (upd (upd nu en n) (en + 1) n) (upd (upd fi en (nI 0)) (en + 1) (nI 0)) (upd (upd se en (nI 0)) (en + 1) (nI 0)) (upd (upd ju b (nI (en + 1))) en (nI (en + 1 + 1))) (upd op (ob - 1) (nI en)) (en + 1 + 1) sm (ob - 1) be af pl rf rp rs ra rb rl) := by
  refine KM.of (cc := cX1_endBlock) (nL := 3) (ret := (some .boolean)) (by decide +kernel) rfl (Nat.le_of_ble_eq_true rfl) ?_
  have i1 : ∀ w ∈ u_ws RX1 TX1 9, w ∈ wsX1_endBlock := by decide +kernel
  refine v_aload_n 1 rfl dX1_endBlock_0 rfl rfl ?_
  refine v_callF (n := 0) (q0 := 4) (ci := 1) 4 rfl (c_beginElse b n (by omega) (by omega) hb (by omega) (by omega) hk hn) gX1_endBlock_X1_beginElse rfl (by decide +kernel) rfl ⟨(Nat.le_of_ble_eq_true rfl), (Nat.le_of_ble_eq_true rfl)⟩ rfl (Nat.le_of_ble_eq_true rfl) rfl rfl rfl dX1_endBlock_1 ⟨Nat.zero_le _, Nat.zero_le _⟩ rfl ?_
  refine v_st (st' := [.int (bI true)]) rfl ?_
  refine v_pop 5 rfl dX1_endBlock_4 rfl ?_
  refine v_aload_n 6 rfl dX1_endBlock_5 rfl rfl ?_
  refine v_callF (n := 0) (q0 := 4) (ci := 1) 9 rfl (c_lastOpened (nI en) (by omega) (by omega) pk_us) gX1_endBlock_X1_lastOpened rfl (by decide +kernel) rfl ⟨(Nat.le_of_ble_eq_true rfl), (Nat.le_of_ble_eq_true rfl)⟩ rfl (Nat.le_of_ble_eq_true rfl) rfl rfl rfl dX1_endBlock_6 ⟨Nat.zero_le _, Nat.zero_le _⟩ rfl ?_
  refine v_st (st' := [.int (nI en)]) rfl ?_
  refine v_istore_n (lv' := [(1, .int (nI en)), (0, .ref (ad 4))]) 10 rfl dX1_endBlock_9 rfl (Nat.le_of_ble_eq_true rfl) rfl ?_
  refine v_aload_n 11 rfl dX1_endBlock_10 rfl rfl ?_
  refine v_iload_n 12 rfl dX1_endBlock_11 rfl rfl ?_
  refine v_callF (n := 1) (q0 := 4) (ci := 1) 15 rfl (c_hasEntryT en (by omega) (by omega)) gX1_endBlock_X1_hasEntry rfl (by decide +kernel) rfl ⟨(Nat.le_of_ble_eq_true rfl), (Nat.le_of_ble_eq_true rfl)⟩ rfl (Nat.le_of_ble_eq_true rfl) rfl rfl rfl dX1_endBlock_12 ⟨Nat.zero_le _, Nat.zero_le _⟩ rfl ?_
  refine v_st (st' := [.int (bI true)]) rfl ?_
  refine v_if_neB (b := true) 20 18 rfl dX1_endBlock_15 (by decide) (fun c15 => ?_) (fun q => False.elim (by cases q))
  refine v_aload_n 21 rfl dX1_endBlock_20 rfl rfl ?_
  refine v_get (ci := 1) (C := RX1) (T := TX1) (N := 9) (v := .int (nI (en + 1))) 24 rfl 4 6 dX1_endBlock_21 rfl (Nat.le_of_ble_eq_true rfl) i1 (by decide +kernel) rfl rfl ?_
  refine v_istore_n (lv' := [(2, .int (nI (en + 1))), (1, .int (nI en)), (0, .ref (ad 4))]) 25 rfl dX1_endBlock_24 rfl (Nat.le_of_ble_eq_true rfl) rfl ?_
  refine v_aload_n 26 rfl dX1_endBlock_25 rfl rfl ?_
  refine v_aload_n 27 rfl dX1_endBlock_26 rfl rfl ?_
  refine v_get (ci := 1) (C := RX1) (T := TX1) (N := 9) (v := .ref (ad 5)) 30 rfl 4 0 dX1_endBlock_27 rfl (Nat.le_of_ble_eq_true rfl) i1 (by decide +kernel) rfl rfl ?_
  refine v_iload_n 31 rfl dX1_endBlock_30 rfl rfl ?_
  refine v_iald (j := en) (v := nI 5) 32 rfl 5 0 dX1_endBlock_31 rfl rfl (by omega) (by decide) pk_us ?_
  refine v_bipush (v := nI 7) 34 rfl dX1_endBlock_32 (by decide) ?_
  refine v_icmp_neN (a := 5) (b := 7) 42 37 rfl dX1_endBlock_34 (by decide) (by omega) (by omega) (fun c34 => ?_) (fun q => False.elim (by omega))
  refine v_bipush (v := nI 6) 44 rfl dX1_endBlock_42 (by decide) ?_
  refine v_aload_n 45 rfl dX1_endBlock_44 rfl rfl ?_
  refine v_get (ci := 1) (C := RX1) (T := TX1) (N := 9) (v := .ref (ad 6)) 48 rfl 4 1 dX1_endBlock_45 rfl (Nat.le_of_ble_eq_true rfl) i1 (by decide +kernel) rfl rfl ?_
  refine v_iload_n 49 rfl dX1_endBlock_48 rfl rfl ?_
  refine v_iald (j := en) (v := n) 50 rfl 6 0 dX1_endBlock_49 rfl rfl (by omega) (by decide) pk_us ?_
  refine v_iconst (v := nI 0) 51 rfl dX1_endBlock_50 (by decide) ?_
  refine v_iconst (v := nI 0) 52 rfl dX1_endBlock_51 (by decide) ?_
  refine v_callF (n := 4) (q0 := 4) (ci := 1) 55 rfl (c_addEntry (nI 6) n (nI 0) (nI 0) (by omega)) gX1_endBlock_X1_addEntry rfl (by decide +kernel) rfl ⟨(Nat.le_of_ble_eq_true rfl), (Nat.le_of_ble_eq_true rfl)⟩ rfl (Nat.le_of_ble_eq_true rfl) rfl rfl rfl dX1_endBlock_52 ⟨Nat.zero_le _, Nat.zero_le _⟩ rfl ?_
  refine v_st (st' := []) rfl ?_
  refine v_aload_n 56 rfl dX1_endBlock_55 rfl rfl ?_
  refine v_get (ci := 1) (C := RX1) (T := TX1) (N := 9) (v := .ref (ad 9)) 59 rfl 4 4 dX1_endBlock_56 rfl (Nat.le_of_ble_eq_true rfl) i1 (by decide +kernel) rfl rfl ?_
  refine v_iload_n 60 rfl dX1_endBlock_59 rfl rfl ?_
  refine v_aload_n 61 rfl dX1_endBlock_60 rfl rfl ?_
  refine v_get (ci := 1) (C := RX1) (T := TX1) (N := 9) (v := .int (nI (en + 1 + 1))) 64 rfl 4 6 dX1_endBlock_61 rfl (Nat.le_of_ble_eq_true rfl) i1 (by decide +kernel) rfl rfl ?_
  refine v_iast (j := en) (w' := wC ad cI cZ tg fn (upd (upd ki en (nI 5)) (en + 1) (nI 6)) (upd (upd nu en n) (en + 1) n) (upd (upd fi en (nI 0)) (en + 1) (nI 0)) (upd (upd se en (nI 0)) (en + 1) (nI 0)) (upd (upd ju b (nI (en + 1))) en (nI (en + 1 + 1))) (upd op (ob - 1) (nI en)) (en + 1 + 1) sm ob be af pl rf rp rs ra rb rl) 65 rfl 9 0 dX1_endBlock_64 rfl rfl (by omega) (by decide) rfl ?_
  refine v_aload_n 66 rfl dX1_endBlock_65 rfl rfl ?_
  refine v_get (ci := 1) (C := RX1) (T := TX1) (N := 9) (v := .ref (ad 5)) 69 rfl 4 0 dX1_endBlock_66 rfl (Nat.le_of_ble_eq_true rfl) i1 (by decide +kernel) rfl rfl ?_
  refine v_iload_n 70 rfl dX1_endBlock_69 rfl rfl ?_
  refine v_iald (j := en) (v := nI 5) 71 rfl 5 0 dX1_endBlock_70 rfl rfl (by omega) (by decide) (by rw [pk_un (by omega)]; exact pk_us) ?_
  refine v_bipush (v := nI 7) 73 rfl dX1_endBlock_71 (by decide) ?_
  refine v_icmp_neN (a := 5) (b := 7) 91 76 rfl dX1_endBlock_73 (by decide) (by omega) (by omega) (fun c73 => ?_) (fun q => False.elim (by omega))
  refine v_aload_n 92 rfl dX1_endBlock_91 rfl rfl ?_
  refine v_dup 93 rfl dX1_endBlock_92 rfl ?_
  refine v_get (ci := 1) (C := RX1) (T := TX1) (N := 9) (v := .int (nI ob)) 96 rfl 4 8 dX1_endBlock_93 rfl (Nat.le_of_ble_eq_true rfl) i1 (by decide +kernel) rfl rfl ?_
  refine v_iconst (v := nI 1) 97 rfl dX1_endBlock_96 (by decide) ?_
  refine v_isubN (a := ob) (b := 1) 98 rfl dX1_endBlock_97 (by omega) ?_
  refine v_put (ci := 1) (C := RX1) (T := TX1) (ty0 := tyX1) (N := 9) (ty := .int) (w' := wC ad cI cZ tg fn (upd (upd ki en (nI 5)) (en + 1) (nI 6)) (upd (upd nu en n) (en + 1) n) (upd (upd fi en (nI 0)) (en + 1) (nI 0)) (upd (upd se en (nI 0)) (en + 1) (nI 0)) (upd (upd ju b (nI (en + 1))) en (nI (en + 1 + 1))) (upd op (ob - 1) (nI en)) (en + 1 + 1) sm (ob - 1) be af pl rf rp rs ra rb rl) 101 rfl 4 8 dX1_endBlock_98 rfl (Nat.le_of_ble_eq_true rfl) i1 tyX1_ok nmX1 (by decide +kernel) rfl (by decide +kernel) rfl rfl rfl (Nat.le_of_ble_eq_true rfl) rfl ?_
  refine v_iconst (v := nI 1) 102 rfl dX1_endBlock_101 (by decide) ?_
  refine v_top (v' := bI true) (by decide) ?_
  exact v_zret dX1_endBlock_102 rfl rfl rfl
end
section
def tN (x : Int32) : Nat := x.toNatClampNeg
theorem tN_nI {n : Nat} (h : n < 2 ^ 31) : tN (nI n) = n := nI_clamp h
def fillF (f : Nat → Int32) (n : Nat) (v : Int32) : Nat → Int32 := fun j => if j < n then v else f j
theorem fillF_0 (f : Nat → Int32) (v : Int32) : fillF f 0 v = f := by funext j; simp [fillF]
theorem fillF_s (f : Nat → Int32) (i : Nat) (v : Int32) : upd (fillF f i v) i v = fillF f (i + 1) v := by
  funext j
  simp only [upd, fillF]
  by_cases h : j = i
  · simp [h]
  · by_cases h2 : j < i
    · simp [h, h2, Nat.lt_succ_of_lt h2]
    · simp [h, h2, show ¬ j < i + 1 by omega]
theorem oI_m1 {n : Nat} (h : n < 2 ^ 31) : oI n = -1 ↔ n = 0 := ⟨fun z => oI_inj h (by omega) (z.trans oI_0.symm), fun z => by rw [z]; exact oI_0⟩
/-- an answer that is a number A, or a fault f below zero -/
def fI (f A : Nat) : Int32 := if f = 0 then nI A else -nI f
theorem fI_0 (A : Nat) : fI 0 A = nI A := rfl
theorem fI_s {f : Nat} (h : f ≠ 0) (A : Nat) : fI f A = -nI f := by simp [fI, h]
theorem neg_lt : ∀ f, f < 9 → f ≠ 0 → -nI f < 0 := by decide
theorem neg_neg9 : ∀ f, f < 9 → -(-nI f) = nI f := by decide
/-- whether some variable from v on, of m, holds an object that may not be left -/
def leav (fb : Nat → Bool) (A : Nat) : Nat → Nat → Nat
  | 0, _ => 0
  | m + 1, v => if hb A v ≠ 0 ∧ fb (hb A v - 1) = false then 7 else leav fb A m (v + 1)
/-- a MAKE, CALL, MOVE or DROP (d) of v and x: its fault, what is held behind it -/
def sim (tn : Nat → Nat) (fb : Nat → Bool) (d v x A : Nat) : Nat × Nat :=
  if d = 0 then (if hb A v ≠ 0 then (1, A) else (0, wh A v (8 * x + 1)))
  else if hb A v = 0 then (2, A)
  else if d = 1 then (if tn ((hb A v - 1) * 4 + x) = 0 then (3, A) else (0, wh A v (8 * ((hb A v - 1) / 8) + tn ((hb A v - 1) * 4 + x))))
  else if d = 2 then (if hb A x ≠ 0 then (1, A) else (0, wh (wh A v 0) x (hb A v)))
  else if fb (hb A v - 1) = true then (0, wh A v 0) else (4, A)

set_option maxRecDepth 100000 in
theorem c_fill {D : va_G} {cI cZ cJ : ClassId} {l : Launch} (w : va_W) (q a n : Nat) (f : Nat → Int32) (v : Int32) (hq : w[q]? = some (a, .inl (cI, n, .inl f))) (hn : n < 2 ^ 31) : KM D (tyL cI cZ cJ) l yJ7_fill_53178 wsJ7_fill_53178 0 0 [.ref a, .int v] w none (w.set q (a, .inl (cI, n, .inl (fillF f n v)))) := by
  refine KM.of (cc := cJ7_fill_53178) (nL := 4) (ret := none) (by decide +kernel) rfl (Nat.le_of_ble_eq_true rfl) ?_
  have hlt : q < w.length := (List.getElem?_eq_some_iff.mp hq).1
  have hs0 : ∀ e : va_E, (w.set q (a, e))[q]? = some (a, e) := fun e => by simp [List.getElem?_set, hlt]
  have loop : ∀ (m i : Nat), i + m = n → V (xM D (tyL cI cZ cJ) l 0 0 w none (w.set q (a, .inl (cI, n, .inl (fillF f n v))))) (cJ7_fill_53178, wsJ7_fill_53178, yJ7_fill_53178.cls, 4, none, yJ7_fill_53178.name) 0 0 (w.set q (a, .inl (cI, n, .inl (fillF f i v)))) 5 [(2, .int (nI i)), (0, .ref a), (1, .int v), (3, .int (nI n))] [] := by
    intro m
    induction m with
    | zero =>
      intro i hi
      refine v_iload_n 6 rfl dJ7_fill_53178_5 rfl rfl ?_
      refine v_iload_n 7 rfl dJ7_fill_53178_6 rfl rfl ?_
      refine v_icmp_geN (a := i) (b := n) 20 10 rfl dJ7_fill_53178_7 (by decide) (by omega) (by omega) (fun c7 => ?_) (fun c7 => False.elim (by omega))
      exact v_vret dJ7_fill_53178_20 rfl rfl (by rw [show i = n by omega])
    | succ m ih =>
      intro i hi
      refine v_iload_n 6 rfl dJ7_fill_53178_5 rfl rfl ?_
      refine v_iload_n 7 rfl dJ7_fill_53178_6 rfl rfl ?_
      refine v_icmp_geN (a := i) (b := n) 20 10 rfl dJ7_fill_53178_7 (by decide) (by omega) (by omega) (fun c7 => False.elim (by omega)) (fun c7 => ?_)
      refine v_aload_n 11 rfl dJ7_fill_53178_10 rfl rfl ?_
      refine v_iload_n 12 rfl dJ7_fill_53178_11 rfl rfl ?_
      refine v_iload_n 13 rfl dJ7_fill_53178_12 rfl rfl ?_
      refine v_iast (j := i) (w' := w.set q (a, .inl (cI, n, .inl (fillF f (i + 1) v)))) 14 rfl q 0 dJ7_fill_53178_13 (hs0 _) rfl (by omega) hn (by rw [List.set_set, fillF_s]) ?_
      refine v_iinc (v := nI (i + 1)) (lv' := [(2, .int (nI (i + 1))), (0, .ref a), (1, .int v), (3, .int (nI n))]) 17 rfl dJ7_fill_53178_14 0 rfl (nI_add _ _) (Nat.le_of_ble_eq_true rfl) rfl ?_
      refine v_goto 5 dJ7_fill_53178_17 (by decide) ?_
      exact ih (i + 1) (by omega)
  refine v_iconst (v := nI 0) 1 rfl dJ7_fill_53178_0 (by decide) ?_
  refine v_istore_n (lv' := [(2, .int (nI 0)), (0, .ref a), (1, .int v)]) 2 rfl dJ7_fill_53178_1 rfl (Nat.le_of_ble_eq_true rfl) rfl ?_
  refine v_aload_n 3 rfl dJ7_fill_53178_2 rfl rfl ?_
  refine v_alen 4 rfl q 0 dJ7_fill_53178_3 hq rfl ?_
  refine v_istore_n (lv' := [(3, .int (nI n)), (2, .int (nI 0)), (0, .ref a), (1, .int v)]) 5 rfl dJ7_fill_53178_4 rfl (Nat.le_of_ble_eq_true rfl) rfl ?_
  refine v_lv [1, 2, 3, 0] rfl ?_
  have h0 : w = w.set q (a, .inl (cI, n, .inl (fillF f 0 v))) := by
    rw [fillF_0]
    apply List.ext_getElem?
    intro i
    rw [List.getElem?_set]
    by_cases h : q = i
    · subst h; rw [hq]; simp [hlt]
    · simp [h]
  refine v_w h0 ?_
  exact loop n 0 (by omega)

set_option maxRecDepth 100000 in
set_option maxHeartbeats 4000000 in
theorem c_faultOfLeaving {D : va_G} {cI cZ cJ : ClassId} {l : Launch} {ad : Nat → Nat} {tg : Nat → Int32} {fn : Nat → Int32} {ki : Nat → Int32} {nu : Nat → Int32} {fi : Nat → Int32} {se : Nat → Int32} {ju : Nat → Int32} {op : Nat → Int32} {en : Nat} {sm : Nat} {ob : Nat} {be : Nat → Int32} {af : Nat → Int32} {pl : Int32} {rf : Int32} {rp : Int32} {rs : Nat} {ra : Nat} {rb : Int32} {rl : Nat} (fb : Nat → Bool) (A : Nat) (hA : A < 2 ^ 20) (hfn : ∀ o, o < 24 → fn o = bI (fb o)) (hob : ∀ v, v < 4 → hb A v ≤ 24)  : KM D (tyL cI cZ cJ) l yX2_faultOfLeaving wsX2_faultOfLeaving 2 42 [.ref (ad 1), .int (nI A)] (wC ad cI cZ tg fn ki nu fi se ju op en sm ob be af pl rf rp rs ra rb rl) (some (.int (nI (leav fb A 4 0)))) (wC ad cI cZ tg fn ki nu fi se ju op en sm ob be af pl rf rp rs ra rb rl) := by
  refine KM.of (cc := cX2_faultOfLeaving) (nL := 4) (ret := (some .int)) (by decide +kernel) rfl (Nat.le_of_ble_eq_true rfl) ?_

  have loop : ∀ (R m i : Nat), i + m = 4 → leav fb A m i = R → V (xM D (tyL cI cZ cJ) l 2 42 (wC ad cI cZ tg fn ki nu fi se ju op en sm ob be af pl rf rp rs ra rb rl) (some (.int (nI R))) (wC ad cI cZ tg fn ki nu fi se ju op en sm ob be af pl rf rp rs ra rb rl)) (cX2_faultOfLeaving, wsX2_faultOfLeaving, yX2_faultOfLeaving.cls, 4, (some .int), yX2_faultOfLeaving.name) 0 0 (wC ad cI cZ tg fn ki nu fi se ju op en sm ob be af pl rf rp rs ra rb rl) 2 [(2, .int (nI i)), (0, .ref (ad 1)), (1, .int (nI A))] [] := by
    intro R m
    induction m with
    | zero =>
      intro i hi hres
      refine v_iload_n 3 rfl dX2_faultOfLeaving_2 rfl rfl ?_
      refine v_iconst (v := nI 4) 4 rfl dX2_faultOfLeaving_3 (by decide) ?_
      refine v_icmp_geN (a := i) (b := 4) 35 7 rfl dX2_faultOfLeaving_4 (by decide) (by omega) (by omega) (fun c4 => ?_) (fun c4 => False.elim (by omega))
      refine v_iconst (v := nI 0) 36 rfl dX2_faultOfLeaving_35 (by decide) ?_
      exact v_iret dX2_faultOfLeaving_36 rfl (by rw [← hres]; rfl) rfl
    | succ m ih =>
      intro i hi hres
      refine v_iload_n 3 rfl dX2_faultOfLeaving_2 rfl rfl ?_
      refine v_iconst (v := nI 4) 4 rfl dX2_faultOfLeaving_3 (by decide) ?_
      refine v_icmp_geN (a := i) (b := 4) 35 7 rfl dX2_faultOfLeaving_4 (by decide) (by omega) (by omega) (fun c4 => False.elim (by omega)) (fun c4 => ?_)
      refine v_iload_n 8 rfl dX2_faultOfLeaving_7 rfl rfl ?_
      refine v_iload_n 9 rfl dX2_faultOfLeaving_8 rfl rfl ?_
      refine v_callSN (n := 2) 12 rfl (c_heldBy A i (by omega) (by omega)) gX2_faultOfLeaving_X4_heldBy_n29 rfl (by decide +kernel) (by decide +kernel) (by decide +kernel) (by decide +kernel) rfl ⟨(Nat.le_of_ble_eq_true rfl), (Nat.le_of_ble_eq_true rfl)⟩ rfl (Nat.le_of_ble_eq_true rfl) dX2_faultOfLeaving_9 ⟨Nat.zero_le _, Nat.zero_le _⟩ ?_
      refine v_st (st' := [.int (oI (hb A i))]) rfl ?_
      refine v_istore_n (lv' := [(3, .int (oI (hb A i))), (2, .int (nI i)), (0, .ref (ad 1)), (1, .int (nI A))]) 13 rfl dX2_faultOfLeaving_12 rfl (Nat.le_of_ble_eq_true rfl) rfl ?_
      refine v_iload_n 14 rfl dX2_faultOfLeaving_13 rfl rfl ?_
      refine v_iconst (v := -1) 15 rfl dX2_faultOfLeaving_14 (by decide) ?_
      refine v_icmp_eq 29 18 rfl dX2_faultOfLeaving_15 (by decide) (fun c15 => ?_) (fun c15 => ?_)
      · have z : hb A i = 0 := (oI_m1 (by have := hb_lt A i; omega)).mp c15
        have hres' : leav fb A m (i + 1) = R := by rw [← hres]; simp [leav, z]
        refine v_iinc (v := nI (i + 1)) (lv' := [(2, .int (nI (i + 1))), (3, .int (oI (hb A i))), (0, .ref (ad 1)), (1, .int (nI A))]) 32 rfl dX2_faultOfLeaving_29 1 rfl (nI_add _ _) (Nat.le_of_ble_eq_true rfl) rfl ?_
        refine v_goto 2 dX2_faultOfLeaving_32 (by decide) ?_
        refine v_lv [0, 2, 3] rfl ?_
        exact ih (i + 1) (by omega) hres'
      · have z : hb A i ≠ 0 := fun h => c15 ((oI_m1 (by have := hb_lt A i; omega)).mpr h)
        have hle := hob i (by omega)
        refine v_aload_n 19 rfl dX2_faultOfLeaving_18 rfl rfl ?_
        refine v_iload_n 20 rfl dX2_faultOfLeaving_19 rfl rfl ?_
        refine v_top (v' := nI (hb A i - 1)) (oI_p (by omega)) ?_
        refine v_callF (n := 1) (q0 := 1) (ci := 2) 23 rfl (c_mayBeLeft (hb A i - 1) (fb (hb A i - 1)) (by omega) (hfn _ (by omega))) gX2_faultOfLeaving_X2_mayBeLeft rfl (by decide +kernel) rfl ⟨(Nat.le_of_ble_eq_true rfl), (Nat.le_of_ble_eq_true rfl)⟩ rfl (Nat.le_of_ble_eq_true rfl) rfl rfl rfl dX2_faultOfLeaving_20 ⟨Nat.zero_le _, Nat.zero_le _⟩ rfl ?_
        refine v_st (st' := [.int (bI (fb (hb A i - 1)))]) rfl ?_
        refine v_if_neB (b := fb (hb A i - 1)) 29 26 rfl dX2_faultOfLeaving_23 (by decide) (fun c23 => ?_) (fun c23 => ?_)
        · have hres' : leav fb A m (i + 1) = R := by rw [← hres]; simp [leav, z, c23]
          refine v_iinc (v := nI (i + 1)) (lv' := [(2, .int (nI (i + 1))), (3, .int (oI (hb A i))), (0, .ref (ad 1)), (1, .int (nI A))]) 32 rfl dX2_faultOfLeaving_29 1 rfl (nI_add _ _) (Nat.le_of_ble_eq_true rfl) rfl ?_
          refine v_goto 2 dX2_faultOfLeaving_32 (by decide) ?_
          refine v_lv [0, 2, 3] rfl ?_
          exact ih (i + 1) (by omega) hres'
        · have hR : R = 7 := by rw [← hres]; simp [leav, z, c23]
          refine v_bipush (v := nI 7) 28 rfl dX2_faultOfLeaving_26 (by decide) ?_
          exact v_iret dX2_faultOfLeaving_28 rfl (by rw [hR]) rfl
  refine v_iconst (v := nI 0) 1 rfl dX2_faultOfLeaving_0 (by decide) ?_
  refine v_istore_n (lv' := [(2, .int (nI 0)), (0, .ref (ad 1)), (1, .int (nI A))]) 2 rfl dX2_faultOfLeaving_1 rfl (Nat.le_of_ble_eq_true rfl) rfl ?_
  exact loop _ 4 0 rfl rfl

set_option maxRecDepth 100000 in
set_option maxHeartbeats 4000000 in
theorem c_afterSimple0 {D : va_G} {cI cZ cJ : ClassId} {l : Launch} {ad : Nat → Nat} {tg : Nat → Int32} {fn : Nat → Int32} {ki : Nat → Int32} {nu : Nat → Int32} {fi : Nat → Int32} {se : Nat → Int32} {ju : Nat → Int32} {op : Nat → Int32} {en : Nat} {sm : Nat} {ob : Nat} {be : Nat → Int32} {af : Nat → Int32} {pl : Int32} {rf : Int32} {rp : Int32} {rs : Nat} {ra : Nat} {rb : Int32} {rl : Nat} (tn : Nat → Nat) (fb : Nat → Bool) (t v x A : Nat) (hte : t < en) (hen : en ≤ 120) (hv : v < 4) (hA : A < 2 ^ 20) (hf : fi t = nI v) (hs : se t = nI x) (hk : ki t = nI 0) (hx : x < 3) : KM D (tyL cI cZ cJ) l yX1_afterSimple wsX1_afterSimple 2 43 [.ref (ad 4), .int (nI t), .int (nI A), .ref (ad 1)] (wC ad cI cZ tg fn ki nu fi se ju op en sm ob be af pl rf rp rs ra rb rl) (some (.int (fI (sim tn fb 0 v x A).1 (sim tn fb 0 v x A).2))) (wC ad cI cZ tg fn ki nu fi se ju op en sm ob be af pl rf rp rs ra rb rl) := by
  refine KM.of (cc := cX1_afterSimple) (nL := 8) (ret := (some .int)) (by decide +kernel) rfl (Nat.le_of_ble_eq_true rfl) ?_
  have i1 : ∀ w ∈ u_ws RX1 TX1 9, w ∈ wsX1_afterSimple := by decide +kernel
  refine v_aload_n 1 rfl dX1_afterSimple_0 rfl rfl ?_
  refine v_iload_n 2 rfl dX1_afterSimple_1 rfl rfl ?_
  refine v_callF (n := 1) (q0 := 4) (ci := 1) 5 rfl (c_hasEntryT t (by omega) (by omega)) gX1_afterSimple_X1_hasEntry rfl (by decide +kernel) rfl ⟨(Nat.le_of_ble_eq_true rfl), (Nat.le_of_ble_eq_true rfl)⟩ rfl (Nat.le_of_ble_eq_true rfl) rfl rfl rfl dX1_afterSimple_2 ⟨Nat.zero_le _, Nat.zero_le _⟩ rfl ?_
  refine v_st (st' := [.int (bI true)]) rfl ?_
  refine v_if_neB (b := true) 10 8 rfl dX1_afterSimple_5 (by decide) (fun c5 => ?_) (fun q => False.elim (by cases q))
  refine v_aload_n 11 rfl dX1_afterSimple_10 rfl rfl ?_
  refine v_get (ci := 1) (C := RX1) (T := TX1) (N := 9) (v := .ref (ad 7)) 14 rfl 4 2 dX1_afterSimple_11 rfl (Nat.le_of_ble_eq_true rfl) i1 (by decide +kernel) rfl rfl ?_
  refine v_iload_n 15 rfl dX1_afterSimple_14 rfl rfl ?_
  refine v_iald (j := t) (v := nI v) 16 rfl 7 0 dX1_afterSimple_15 rfl rfl (by omega) (by decide) hf ?_
  refine v_istore (lv' := [(4, .int (nI v)), (0, .ref (ad 4)), (1, .int (nI t)), (2, .int (nI A)), (3, .ref (ad 1))]) 18 rfl dX1_afterSimple_16 (Nat.le_of_ble_eq_true rfl) rfl ?_
  refine v_aload_n 19 rfl dX1_afterSimple_18 rfl rfl ?_
  refine v_get (ci := 1) (C := RX1) (T := TX1) (N := 9) (v := .ref (ad 8)) 22 rfl 4 3 dX1_afterSimple_19 rfl (Nat.le_of_ble_eq_true rfl) i1 (by decide +kernel) rfl rfl ?_
  refine v_iload_n 23 rfl dX1_afterSimple_22 rfl rfl ?_
  refine v_iald (j := t) (v := nI x) 24 rfl 8 0 dX1_afterSimple_23 rfl rfl (by omega) (by decide) hs ?_
  refine v_istore (lv' := [(5, .int (nI x)), (4, .int (nI v)), (0, .ref (ad 4)), (1, .int (nI t)), (2, .int (nI A)), (3, .ref (ad 1))]) 26 rfl dX1_afterSimple_24 (Nat.le_of_ble_eq_true rfl) rfl ?_
  refine v_iload_n 27 rfl dX1_afterSimple_26 rfl rfl ?_
  refine v_iload 29 rfl dX1_afterSimple_27 rfl ?_
  refine v_callSN (n := 2) 32 rfl (c_heldBy A v (by omega) (by omega)) gX1_afterSimple_X4_heldBy_n60 rfl (by decide +kernel) (by decide +kernel) (by decide +kernel) (by decide +kernel) rfl ⟨(Nat.le_of_ble_eq_true rfl), (Nat.le_of_ble_eq_true rfl)⟩ rfl (Nat.le_of_ble_eq_true rfl) dX1_afterSimple_29 ⟨Nat.zero_le _, Nat.zero_le _⟩ ?_
  refine v_st (st' := [.int (oI (hb A v))]) rfl ?_
  refine v_istore (lv' := [(6, .int (oI (hb A v))), (5, .int (nI x)), (4, .int (nI v)), (0, .ref (ad 4)), (1, .int (nI t)), (2, .int (nI A)), (3, .ref (ad 1))]) 34 rfl dX1_afterSimple_32 (Nat.le_of_ble_eq_true rfl) rfl ?_
  refine v_aload_n 35 rfl dX1_afterSimple_34 rfl rfl ?_
  refine v_get (ci := 1) (C := RX1) (T := TX1) (N := 9) (v := .ref (ad 5)) 38 rfl 4 0 dX1_afterSimple_35 rfl (Nat.le_of_ble_eq_true rfl) i1 (by decide +kernel) rfl rfl ?_
  refine v_iload_n 39 rfl dX1_afterSimple_38 rfl rfl ?_
  refine v_iald (j := t) (v := nI 0) 40 rfl 5 0 dX1_afterSimple_39 rfl rfl (by omega) (by decide) hk ?_
  refine v_if_neN (a := 0) 66 43 rfl dX1_afterSimple_40 (by decide) (by omega) (fun q => False.elim (by omega)) (fun c40 => ?_)
  refine v_iload 45 rfl dX1_afterSimple_43 rfl ?_
  refine v_iconst (v := -1) 46 rfl dX1_afterSimple_45 (by decide) ?_
  refine v_icmp_eq 53 49 rfl dX1_afterSimple_46 (by decide) (fun c46 => ?_) (fun c46 => ?_)
  · have z : hb A v = 0 := (oI_m1 (by have := hb_lt A v; omega)).mp c46
    refine v_iload_n 54 rfl dX1_afterSimple_53 rfl rfl ?_
    refine v_iload 56 rfl dX1_afterSimple_54 rfl ?_
    refine v_iload 58 rfl dX1_afterSimple_56 rfl ?_
    refine v_iconst (v := nI 0) 59 rfl dX1_afterSimple_58 (by decide) ?_
    refine v_callSN (n := 2) 62 rfl (c_objectOf x 0) gX1_afterSimple_X4_objectOf_n64 rfl (by decide +kernel) (by decide +kernel) (by decide +kernel) (by decide +kernel) rfl ⟨(Nat.le_of_ble_eq_true rfl), (Nat.le_of_ble_eq_true rfl)⟩ rfl (Nat.le_of_ble_eq_true rfl) dX1_afterSimple_59 ⟨Nat.zero_le _, Nat.zero_le _⟩ ?_
    refine v_st (st' := [.int (nI (8 * x + 0)), .int (nI v), .int (nI A)]) rfl ?_
    refine v_top (v' := oI (8 * x + 1)) (oI_s (8 * x)).symm ?_
    refine v_callSN (n := 3) 65 rfl (c_withHeld A v (8 * x + 1) (by first | omega | exact wh_lt hA hv (by omega)) (by omega) (by omega)) gX1_afterSimple_X4_withHeld_n67 rfl (by decide +kernel) (by decide +kernel) (by decide +kernel) (by decide +kernel) rfl ⟨(Nat.le_of_ble_eq_true rfl), (Nat.le_of_ble_eq_true rfl)⟩ rfl (Nat.le_of_ble_eq_true rfl) dX1_afterSimple_62 ⟨Nat.zero_le _, Nat.zero_le _⟩ ?_
    refine v_st (st' := [.int (nI (wh A v (8 * x + 1)))]) rfl ?_
    exact v_iret dX1_afterSimple_65 rfl (by simp [sim, fI, *] <;> rfl) rfl
  · have z : hb A v ≠ 0 := fun h => c46 ((oI_m1 (by have := hb_lt A v; omega)).mpr h)
    have hle := hb_lt A v
    refine v_iconst (v := -1) 50 rfl dX1_afterSimple_49 (by decide) ?_
    refine v_goto 65 dX1_afterSimple_50 (by decide) ?_
    exact v_iret dX1_afterSimple_65 rfl (by simp [sim, fI, *] <;> rfl) rfl

set_option maxRecDepth 100000 in
set_option maxHeartbeats 4000000 in
theorem c_afterSimple1 {D : va_G} {cI cZ cJ : ClassId} {l : Launch} {ad : Nat → Nat} {tg : Nat → Int32} {fn : Nat → Int32} {ki : Nat → Int32} {nu : Nat → Int32} {fi : Nat → Int32} {se : Nat → Int32} {ju : Nat → Int32} {op : Nat → Int32} {en : Nat} {sm : Nat} {ob : Nat} {be : Nat → Int32} {af : Nat → Int32} {pl : Int32} {rf : Int32} {rp : Int32} {rs : Nat} {ra : Nat} {rb : Int32} {rl : Nat} (tn : Nat → Nat) (fb : Nat → Bool) (t v x A : Nat) (hte : t < en) (hen : en ≤ 120) (hv : v < 4) (hA : A < 2 ^ 20) (hf : fi t = nI v) (hs : se t = nI x) (hk : ki t = nI 1) (hx : x < 4) (hob : hb A v ≤ 24) (ht : tg ((hb A v - 1) * 4 + x) = oI (tn ((hb A v - 1) * 4 + x))) (hti : tn ((hb A v - 1) * 4 + x) ≤ 5) : KM D (tyL cI cZ cJ) l yX1_afterSimple wsX1_afterSimple 2 43 [.ref (ad 4), .int (nI t), .int (nI A), .ref (ad 1)] (wC ad cI cZ tg fn ki nu fi se ju op en sm ob be af pl rf rp rs ra rb rl) (some (.int (fI (sim tn fb 1 v x A).1 (sim tn fb 1 v x A).2))) (wC ad cI cZ tg fn ki nu fi se ju op en sm ob be af pl rf rp rs ra rb rl) := by
  refine KM.of (cc := cX1_afterSimple) (nL := 8) (ret := (some .int)) (by decide +kernel) rfl (Nat.le_of_ble_eq_true rfl) ?_
  have i1 : ∀ w ∈ u_ws RX1 TX1 9, w ∈ wsX1_afterSimple := by decide +kernel
  refine v_aload_n 1 rfl dX1_afterSimple_0 rfl rfl ?_
  refine v_iload_n 2 rfl dX1_afterSimple_1 rfl rfl ?_
  refine v_callF (n := 1) (q0 := 4) (ci := 1) 5 rfl (c_hasEntryT t (by omega) (by omega)) gX1_afterSimple_X1_hasEntry rfl (by decide +kernel) rfl ⟨(Nat.le_of_ble_eq_true rfl), (Nat.le_of_ble_eq_true rfl)⟩ rfl (Nat.le_of_ble_eq_true rfl) rfl rfl rfl dX1_afterSimple_2 ⟨Nat.zero_le _, Nat.zero_le _⟩ rfl ?_
  refine v_st (st' := [.int (bI true)]) rfl ?_
  refine v_if_neB (b := true) 10 8 rfl dX1_afterSimple_5 (by decide) (fun c5 => ?_) (fun q => False.elim (by cases q))
  refine v_aload_n 11 rfl dX1_afterSimple_10 rfl rfl ?_
  refine v_get (ci := 1) (C := RX1) (T := TX1) (N := 9) (v := .ref (ad 7)) 14 rfl 4 2 dX1_afterSimple_11 rfl (Nat.le_of_ble_eq_true rfl) i1 (by decide +kernel) rfl rfl ?_
  refine v_iload_n 15 rfl dX1_afterSimple_14 rfl rfl ?_
  refine v_iald (j := t) (v := nI v) 16 rfl 7 0 dX1_afterSimple_15 rfl rfl (by omega) (by decide) hf ?_
  refine v_istore (lv' := [(4, .int (nI v)), (0, .ref (ad 4)), (1, .int (nI t)), (2, .int (nI A)), (3, .ref (ad 1))]) 18 rfl dX1_afterSimple_16 (Nat.le_of_ble_eq_true rfl) rfl ?_
  refine v_aload_n 19 rfl dX1_afterSimple_18 rfl rfl ?_
  refine v_get (ci := 1) (C := RX1) (T := TX1) (N := 9) (v := .ref (ad 8)) 22 rfl 4 3 dX1_afterSimple_19 rfl (Nat.le_of_ble_eq_true rfl) i1 (by decide +kernel) rfl rfl ?_
  refine v_iload_n 23 rfl dX1_afterSimple_22 rfl rfl ?_
  refine v_iald (j := t) (v := nI x) 24 rfl 8 0 dX1_afterSimple_23 rfl rfl (by omega) (by decide) hs ?_
  refine v_istore (lv' := [(5, .int (nI x)), (4, .int (nI v)), (0, .ref (ad 4)), (1, .int (nI t)), (2, .int (nI A)), (3, .ref (ad 1))]) 26 rfl dX1_afterSimple_24 (Nat.le_of_ble_eq_true rfl) rfl ?_
  refine v_iload_n 27 rfl dX1_afterSimple_26 rfl rfl ?_
  refine v_iload 29 rfl dX1_afterSimple_27 rfl ?_
  refine v_callSN (n := 2) 32 rfl (c_heldBy A v (by omega) (by omega)) gX1_afterSimple_X4_heldBy_n60 rfl (by decide +kernel) (by decide +kernel) (by decide +kernel) (by decide +kernel) rfl ⟨(Nat.le_of_ble_eq_true rfl), (Nat.le_of_ble_eq_true rfl)⟩ rfl (Nat.le_of_ble_eq_true rfl) dX1_afterSimple_29 ⟨Nat.zero_le _, Nat.zero_le _⟩ ?_
  refine v_st (st' := [.int (oI (hb A v))]) rfl ?_
  refine v_istore (lv' := [(6, .int (oI (hb A v))), (5, .int (nI x)), (4, .int (nI v)), (0, .ref (ad 4)), (1, .int (nI t)), (2, .int (nI A)), (3, .ref (ad 1))]) 34 rfl dX1_afterSimple_32 (Nat.le_of_ble_eq_true rfl) rfl ?_
  refine v_aload_n 35 rfl dX1_afterSimple_34 rfl rfl ?_
  refine v_get (ci := 1) (C := RX1) (T := TX1) (N := 9) (v := .ref (ad 5)) 38 rfl 4 0 dX1_afterSimple_35 rfl (Nat.le_of_ble_eq_true rfl) i1 (by decide +kernel) rfl rfl ?_
  refine v_iload_n 39 rfl dX1_afterSimple_38 rfl rfl ?_
  refine v_iald (j := t) (v := nI 1) 40 rfl 5 0 dX1_afterSimple_39 rfl rfl (by omega) (by decide) hk ?_
  refine v_if_neN (a := 1) 66 43 rfl dX1_afterSimple_40 (by decide) (by omega) (fun c40 => ?_) (fun q => False.elim (by omega))
  refine v_iload 68 rfl dX1_afterSimple_66 rfl ?_
  refine v_iconst (v := -1) 69 rfl dX1_afterSimple_68 (by decide) ?_
  refine v_icmp_ne 75 72 rfl dX1_afterSimple_69 (by decide) (fun c69 => ?_) (fun c69 => ?_)
  · have z : hb A v ≠ 0 := fun h => c69 ((oI_m1 (by have := hb_lt A v; omega)).mpr h)
    have hle := hb_lt A v
    refine v_aload_n 76 rfl dX1_afterSimple_75 rfl rfl ?_
    refine v_get (ci := 1) (C := RX1) (T := TX1) (N := 9) (v := .ref (ad 5)) 79 rfl 4 0 dX1_afterSimple_76 rfl (Nat.le_of_ble_eq_true rfl) i1 (by decide +kernel) rfl rfl ?_
    refine v_iload_n 80 rfl dX1_afterSimple_79 rfl rfl ?_
    refine v_iald (j := t) (v := nI 1) 81 rfl 5 0 dX1_afterSimple_80 rfl rfl (by omega) (by decide) hk ?_
    refine v_iconst (v := nI 1) 82 rfl dX1_afterSimple_81 (by decide) ?_
    refine v_icmp_neN (a := 1) (b := 1) 123 85 rfl dX1_afterSimple_82 (by decide) (by omega) (by omega) (fun q => False.elim (by omega)) (fun c82 => ?_)
    refine v_aload_n 86 rfl dX1_afterSimple_85 rfl rfl ?_
    refine v_iload 88 rfl dX1_afterSimple_86 rfl ?_
    refine v_top (v' := nI (hb A v - 1)) (oI_p (by omega)) ?_
    refine v_iload 90 rfl dX1_afterSimple_88 rfl ?_
    refine v_callF (n := 2) (q0 := 1) (ci := 2) 93 rfl (c_targetOf (hb A v - 1) x (oI (tn ((hb A v - 1) * 4 + x))) (by omega) (by omega) ht) gX1_afterSimple_X2_targetOf rfl (by decide +kernel) rfl ⟨(Nat.le_of_ble_eq_true rfl), (Nat.le_of_ble_eq_true rfl)⟩ rfl (Nat.le_of_ble_eq_true rfl) rfl rfl rfl dX1_afterSimple_90 ⟨Nat.zero_le _, Nat.zero_le _⟩ rfl ?_
    refine v_st (st' := [.int (oI (tn ((hb A v - 1) * 4 + x)))]) rfl ?_
    refine v_istore (lv' := [(7, .int (oI (tn ((hb A v - 1) * 4 + x)))), (6, .int (oI (hb A v))), (5, .int (nI x)), (4, .int (nI v)), (0, .ref (ad 4)), (1, .int (nI t)), (2, .int (nI A)), (3, .ref (ad 1))]) 95 rfl dX1_afterSimple_93 (Nat.le_of_ble_eq_true rfl) rfl ?_
    refine v_iload 97 rfl dX1_afterSimple_95 rfl ?_
    refine v_iconst (v := -1) 98 rfl dX1_afterSimple_97 (by decide) ?_
    refine v_icmp_ne 106 101 rfl dX1_afterSimple_98 (by decide) (fun c98 => ?_) (fun c98 => ?_)
    · have z2 : tn ((hb A v - 1) * 4 + x) ≠ 0 := fun h => c98 ((oI_m1 (by omega)).mpr h)
      refine v_iload_n 107 rfl dX1_afterSimple_106 rfl rfl ?_
      refine v_iload 109 rfl dX1_afterSimple_107 rfl ?_
      refine v_iload 111 rfl dX1_afterSimple_109 rfl ?_
      refine v_top (v' := nI (hb A v - 1)) (oI_p (by omega)) ?_
      refine v_callSN (n := 1) 114 rfl (c_protocolOf (hb A v - 1) (by omega)) gX1_afterSimple_X4_protocolOf_n76 rfl (by decide +kernel) (by decide +kernel) (by decide +kernel) (by decide +kernel) rfl ⟨(Nat.le_of_ble_eq_true rfl), (Nat.le_of_ble_eq_true rfl)⟩ rfl (Nat.le_of_ble_eq_true rfl) dX1_afterSimple_111 ⟨Nat.zero_le _, Nat.zero_le _⟩ ?_
      refine v_st (st' := [.int (nI ((hb A v - 1) / 8)), .int (nI v), .int (nI A)]) rfl ?_
      refine v_iload 116 rfl dX1_afterSimple_114 rfl ?_
      refine v_top (v' := nI (tn ((hb A v - 1) * 4 + x) - 1)) (oI_p (by omega)) ?_
      refine v_callSN (n := 2) 119 rfl (c_objectOf ((hb A v - 1) / 8) (tn ((hb A v - 1) * 4 + x) - 1)) gX1_afterSimple_X4_objectOf_n64 rfl (by decide +kernel) (by decide +kernel) (by decide +kernel) (by decide +kernel) rfl ⟨(Nat.le_of_ble_eq_true rfl), (Nat.le_of_ble_eq_true rfl)⟩ rfl (Nat.le_of_ble_eq_true rfl) dX1_afterSimple_116 ⟨Nat.zero_le _, Nat.zero_le _⟩ ?_
      refine v_st (st' := [.int (nI (8 * ((hb A v - 1) / 8) + (tn ((hb A v - 1) * 4 + x) - 1))), .int (nI v), .int (nI A)]) rfl ?_
      refine v_top (v' := oI (8 * ((hb A v - 1) / 8) + tn ((hb A v - 1) * 4 + x))) (by rw [oI_p (by omega)]; congr 1; omega) ?_
      refine v_callSN (n := 3) 122 rfl (c_withHeld A v (8 * ((hb A v - 1) / 8) + tn ((hb A v - 1) * 4 + x)) (by first | omega | exact wh_lt hA hv (by omega)) (by omega) (by omega)) gX1_afterSimple_X4_withHeld_n67 rfl (by decide +kernel) (by decide +kernel) (by decide +kernel) (by decide +kernel) rfl ⟨(Nat.le_of_ble_eq_true rfl), (Nat.le_of_ble_eq_true rfl)⟩ rfl (Nat.le_of_ble_eq_true rfl) dX1_afterSimple_119 ⟨Nat.zero_le _, Nat.zero_le _⟩ ?_
      refine v_st (st' := [.int (nI (wh A v (8 * ((hb A v - 1) / 8) + tn ((hb A v - 1) * 4 + x))))]) rfl ?_
      exact v_iret dX1_afterSimple_122 rfl (by simp [sim, fI, *] <;> rfl) rfl
    · have z2 : tn ((hb A v - 1) * 4 + x) = 0 := (oI_m1 (by omega)).mp c98
      refine v_bipush (v := -3) 103 rfl dX1_afterSimple_101 (by decide) ?_
      refine v_goto 122 dX1_afterSimple_103 (by decide) ?_
      exact v_iret dX1_afterSimple_122 rfl (by simp [sim, fI, *] <;> rfl) rfl
  · have z : hb A v = 0 := (oI_m1 (by have := hb_lt A v; omega)).mp c69
    refine v_bipush (v := -2) 74 rfl dX1_afterSimple_72 (by decide) ?_
    exact v_iret dX1_afterSimple_74 rfl (by simp [sim, fI, *] <;> rfl) rfl

set_option maxRecDepth 100000 in
set_option maxHeartbeats 4000000 in
theorem c_afterSimple2 {D : va_G} {cI cZ cJ : ClassId} {l : Launch} {ad : Nat → Nat} {tg : Nat → Int32} {fn : Nat → Int32} {ki : Nat → Int32} {nu : Nat → Int32} {fi : Nat → Int32} {se : Nat → Int32} {ju : Nat → Int32} {op : Nat → Int32} {en : Nat} {sm : Nat} {ob : Nat} {be : Nat → Int32} {af : Nat → Int32} {pl : Int32} {rf : Int32} {rp : Int32} {rs : Nat} {ra : Nat} {rb : Int32} {rl : Nat} (tn : Nat → Nat) (fb : Nat → Bool) (t v x A : Nat) (hte : t < en) (hen : en ≤ 120) (hv : v < 4) (hA : A < 2 ^ 20) (hf : fi t = nI v) (hs : se t = nI x) (hk : ki t = nI 2) (hx : x < 4) : KM D (tyL cI cZ cJ) l yX1_afterSimple wsX1_afterSimple 2 43 [.ref (ad 4), .int (nI t), .int (nI A), .ref (ad 1)] (wC ad cI cZ tg fn ki nu fi se ju op en sm ob be af pl rf rp rs ra rb rl) (some (.int (fI (sim tn fb 2 v x A).1 (sim tn fb 2 v x A).2))) (wC ad cI cZ tg fn ki nu fi se ju op en sm ob be af pl rf rp rs ra rb rl) := by
  refine KM.of (cc := cX1_afterSimple) (nL := 8) (ret := (some .int)) (by decide +kernel) rfl (Nat.le_of_ble_eq_true rfl) ?_
  have i1 : ∀ w ∈ u_ws RX1 TX1 9, w ∈ wsX1_afterSimple := by decide +kernel
  refine v_aload_n 1 rfl dX1_afterSimple_0 rfl rfl ?_
  refine v_iload_n 2 rfl dX1_afterSimple_1 rfl rfl ?_
  refine v_callF (n := 1) (q0 := 4) (ci := 1) 5 rfl (c_hasEntryT t (by omega) (by omega)) gX1_afterSimple_X1_hasEntry rfl (by decide +kernel) rfl ⟨(Nat.le_of_ble_eq_true rfl), (Nat.le_of_ble_eq_true rfl)⟩ rfl (Nat.le_of_ble_eq_true rfl) rfl rfl rfl dX1_afterSimple_2 ⟨Nat.zero_le _, Nat.zero_le _⟩ rfl ?_
  refine v_st (st' := [.int (bI true)]) rfl ?_
  refine v_if_neB (b := true) 10 8 rfl dX1_afterSimple_5 (by decide) (fun c5 => ?_) (fun q => False.elim (by cases q))
  refine v_aload_n 11 rfl dX1_afterSimple_10 rfl rfl ?_
  refine v_get (ci := 1) (C := RX1) (T := TX1) (N := 9) (v := .ref (ad 7)) 14 rfl 4 2 dX1_afterSimple_11 rfl (Nat.le_of_ble_eq_true rfl) i1 (by decide +kernel) rfl rfl ?_
  refine v_iload_n 15 rfl dX1_afterSimple_14 rfl rfl ?_
  refine v_iald (j := t) (v := nI v) 16 rfl 7 0 dX1_afterSimple_15 rfl rfl (by omega) (by decide) hf ?_
  refine v_istore (lv' := [(4, .int (nI v)), (0, .ref (ad 4)), (1, .int (nI t)), (2, .int (nI A)), (3, .ref (ad 1))]) 18 rfl dX1_afterSimple_16 (Nat.le_of_ble_eq_true rfl) rfl ?_
  refine v_aload_n 19 rfl dX1_afterSimple_18 rfl rfl ?_
  refine v_get (ci := 1) (C := RX1) (T := TX1) (N := 9) (v := .ref (ad 8)) 22 rfl 4 3 dX1_afterSimple_19 rfl (Nat.le_of_ble_eq_true rfl) i1 (by decide +kernel) rfl rfl ?_
  refine v_iload_n 23 rfl dX1_afterSimple_22 rfl rfl ?_
  refine v_iald (j := t) (v := nI x) 24 rfl 8 0 dX1_afterSimple_23 rfl rfl (by omega) (by decide) hs ?_
  refine v_istore (lv' := [(5, .int (nI x)), (4, .int (nI v)), (0, .ref (ad 4)), (1, .int (nI t)), (2, .int (nI A)), (3, .ref (ad 1))]) 26 rfl dX1_afterSimple_24 (Nat.le_of_ble_eq_true rfl) rfl ?_
  refine v_iload_n 27 rfl dX1_afterSimple_26 rfl rfl ?_
  refine v_iload 29 rfl dX1_afterSimple_27 rfl ?_
  refine v_callSN (n := 2) 32 rfl (c_heldBy A v (by omega) (by omega)) gX1_afterSimple_X4_heldBy_n60 rfl (by decide +kernel) (by decide +kernel) (by decide +kernel) (by decide +kernel) rfl ⟨(Nat.le_of_ble_eq_true rfl), (Nat.le_of_ble_eq_true rfl)⟩ rfl (Nat.le_of_ble_eq_true rfl) dX1_afterSimple_29 ⟨Nat.zero_le _, Nat.zero_le _⟩ ?_
  refine v_st (st' := [.int (oI (hb A v))]) rfl ?_
  refine v_istore (lv' := [(6, .int (oI (hb A v))), (5, .int (nI x)), (4, .int (nI v)), (0, .ref (ad 4)), (1, .int (nI t)), (2, .int (nI A)), (3, .ref (ad 1))]) 34 rfl dX1_afterSimple_32 (Nat.le_of_ble_eq_true rfl) rfl ?_
  refine v_aload_n 35 rfl dX1_afterSimple_34 rfl rfl ?_
  refine v_get (ci := 1) (C := RX1) (T := TX1) (N := 9) (v := .ref (ad 5)) 38 rfl 4 0 dX1_afterSimple_35 rfl (Nat.le_of_ble_eq_true rfl) i1 (by decide +kernel) rfl rfl ?_
  refine v_iload_n 39 rfl dX1_afterSimple_38 rfl rfl ?_
  refine v_iald (j := t) (v := nI 2) 40 rfl 5 0 dX1_afterSimple_39 rfl rfl (by omega) (by decide) hk ?_
  refine v_if_neN (a := 2) 66 43 rfl dX1_afterSimple_40 (by decide) (by omega) (fun c40 => ?_) (fun q => False.elim (by omega))
  refine v_iload 68 rfl dX1_afterSimple_66 rfl ?_
  refine v_iconst (v := -1) 69 rfl dX1_afterSimple_68 (by decide) ?_
  refine v_icmp_ne 75 72 rfl dX1_afterSimple_69 (by decide) (fun c69 => ?_) (fun c69 => ?_)
  · have z : hb A v ≠ 0 := fun h => c69 ((oI_m1 (by have := hb_lt A v; omega)).mpr h)
    have hle := hb_lt A v
    refine v_aload_n 76 rfl dX1_afterSimple_75 rfl rfl ?_
    refine v_get (ci := 1) (C := RX1) (T := TX1) (N := 9) (v := .ref (ad 5)) 79 rfl 4 0 dX1_afterSimple_76 rfl (Nat.le_of_ble_eq_true rfl) i1 (by decide +kernel) rfl rfl ?_
    refine v_iload_n 80 rfl dX1_afterSimple_79 rfl rfl ?_
    refine v_iald (j := t) (v := nI 2) 81 rfl 5 0 dX1_afterSimple_80 rfl rfl (by omega) (by decide) hk ?_
    refine v_iconst (v := nI 1) 82 rfl dX1_afterSimple_81 (by decide) ?_
    refine v_icmp_neN (a := 2) (b := 1) 123 85 rfl dX1_afterSimple_82 (by decide) (by omega) (by omega) (fun c82 => ?_) (fun q => False.elim (by omega))
    refine v_aload_n 124 rfl dX1_afterSimple_123 rfl rfl ?_
    refine v_get (ci := 1) (C := RX1) (T := TX1) (N := 9) (v := .ref (ad 5)) 127 rfl 4 0 dX1_afterSimple_124 rfl (Nat.le_of_ble_eq_true rfl) i1 (by decide +kernel) rfl rfl ?_
    refine v_iload_n 128 rfl dX1_afterSimple_127 rfl rfl ?_
    refine v_iald (j := t) (v := nI 2) 129 rfl 5 0 dX1_afterSimple_128 rfl rfl (by omega) (by decide) hk ?_
    refine v_iconst (v := nI 2) 130 rfl dX1_afterSimple_129 (by decide) ?_
    refine v_icmp_neN (a := 2) (b := 2) 162 133 rfl dX1_afterSimple_130 (by decide) (by omega) (by omega) (fun q => False.elim (by omega)) (fun c130 => ?_)
    refine v_iload_n 134 rfl dX1_afterSimple_133 rfl rfl ?_
    refine v_iload 136 rfl dX1_afterSimple_134 rfl ?_
    refine v_callSN (n := 2) 139 rfl (c_heldBy A x (by omega) (by omega)) gX1_afterSimple_X4_heldBy_n60 rfl (by decide +kernel) (by decide +kernel) (by decide +kernel) (by decide +kernel) rfl ⟨(Nat.le_of_ble_eq_true rfl), (Nat.le_of_ble_eq_true rfl)⟩ rfl (Nat.le_of_ble_eq_true rfl) dX1_afterSimple_136 ⟨Nat.zero_le _, Nat.zero_le _⟩ ?_
    refine v_st (st' := [.int (oI (hb A x))]) rfl ?_
    refine v_iconst (v := -1) 140 rfl dX1_afterSimple_139 (by decide) ?_
    refine v_icmp_eq 147 143 rfl dX1_afterSimple_140 (by decide) (fun c140 => ?_) (fun c140 => ?_)
    · have z2 : hb A x = 0 := (oI_m1 (by have := hb_lt A x; omega)).mp c140
      refine v_iload_n 148 rfl dX1_afterSimple_147 rfl rfl ?_
      refine v_iload 150 rfl dX1_afterSimple_148 rfl ?_
      refine v_iconst (v := -1) 151 rfl dX1_afterSimple_150 (by decide) ?_
      refine v_callSN (n := 3) 154 rfl (c_withHeld A v 0 (by omega) (by omega) (by omega)) gX1_afterSimple_X4_withHeld_n67 rfl (by decide +kernel) (by decide +kernel) (by decide +kernel) (by decide +kernel) rfl ⟨(Nat.le_of_ble_eq_true rfl), (Nat.le_of_ble_eq_true rfl)⟩ rfl (Nat.le_of_ble_eq_true rfl) dX1_afterSimple_151 ⟨Nat.zero_le _, Nat.zero_le _⟩ ?_
      refine v_st (st' := [.int (nI (wh A v 0))]) rfl ?_
      refine v_iload 156 rfl dX1_afterSimple_154 rfl ?_
      refine v_iload 158 rfl dX1_afterSimple_156 rfl ?_
      refine v_callSN (n := 3) 161 rfl (c_withHeld (wh A v 0) x (hb A v) (wh_lt hA hv (by omega)) (by omega) (by omega)) gX1_afterSimple_X4_withHeld_n67 rfl (by decide +kernel) (by decide +kernel) (by decide +kernel) (by decide +kernel) rfl ⟨(Nat.le_of_ble_eq_true rfl), (Nat.le_of_ble_eq_true rfl)⟩ rfl (Nat.le_of_ble_eq_true rfl) dX1_afterSimple_158 ⟨Nat.zero_le _, Nat.zero_le _⟩ ?_
      refine v_st (st' := [.int (nI (wh (wh A v 0) x (hb A v)))]) rfl ?_
      exact v_iret dX1_afterSimple_161 rfl (by simp [sim, fI, *] <;> rfl) rfl
    · have z2 : hb A x ≠ 0 := fun h => c140 ((oI_m1 (by have := hb_lt A x; omega)).mpr h)
      refine v_iconst (v := -1) 144 rfl dX1_afterSimple_143 (by decide) ?_
      refine v_goto 161 dX1_afterSimple_144 (by decide) ?_
      exact v_iret dX1_afterSimple_161 rfl (by simp [sim, fI, *] <;> rfl) rfl
  · have z : hb A v = 0 := (oI_m1 (by have := hb_lt A v; omega)).mp c69
    refine v_bipush (v := -2) 74 rfl dX1_afterSimple_72 (by decide) ?_
    exact v_iret dX1_afterSimple_74 rfl (by simp [sim, fI, *] <;> rfl) rfl

set_option maxRecDepth 100000 in
set_option maxHeartbeats 4000000 in
theorem c_afterSimple3 {D : va_G} {cI cZ cJ : ClassId} {l : Launch} {ad : Nat → Nat} {tg : Nat → Int32} {fn : Nat → Int32} {ki : Nat → Int32} {nu : Nat → Int32} {fi : Nat → Int32} {se : Nat → Int32} {ju : Nat → Int32} {op : Nat → Int32} {en : Nat} {sm : Nat} {ob : Nat} {be : Nat → Int32} {af : Nat → Int32} {pl : Int32} {rf : Int32} {rp : Int32} {rs : Nat} {ra : Nat} {rb : Int32} {rl : Nat} (tn : Nat → Nat) (fb : Nat → Bool) (t v x A : Nat) (hte : t < en) (hen : en ≤ 120) (hv : v < 4) (hA : A < 2 ^ 20) (hf : fi t = nI v) (hs : se t = nI x) (hk : ki t = nI 3) (hob : hb A v ≤ 24) (hfn : fn (hb A v - 1) = bI (fb (hb A v - 1))) : KM D (tyL cI cZ cJ) l yX1_afterSimple wsX1_afterSimple 2 43 [.ref (ad 4), .int (nI t), .int (nI A), .ref (ad 1)] (wC ad cI cZ tg fn ki nu fi se ju op en sm ob be af pl rf rp rs ra rb rl) (some (.int (fI (sim tn fb 3 v x A).1 (sim tn fb 3 v x A).2))) (wC ad cI cZ tg fn ki nu fi se ju op en sm ob be af pl rf rp rs ra rb rl) := by
  refine KM.of (cc := cX1_afterSimple) (nL := 8) (ret := (some .int)) (by decide +kernel) rfl (Nat.le_of_ble_eq_true rfl) ?_
  have i1 : ∀ w ∈ u_ws RX1 TX1 9, w ∈ wsX1_afterSimple := by decide +kernel
  refine v_aload_n 1 rfl dX1_afterSimple_0 rfl rfl ?_
  refine v_iload_n 2 rfl dX1_afterSimple_1 rfl rfl ?_
  refine v_callF (n := 1) (q0 := 4) (ci := 1) 5 rfl (c_hasEntryT t (by omega) (by omega)) gX1_afterSimple_X1_hasEntry rfl (by decide +kernel) rfl ⟨(Nat.le_of_ble_eq_true rfl), (Nat.le_of_ble_eq_true rfl)⟩ rfl (Nat.le_of_ble_eq_true rfl) rfl rfl rfl dX1_afterSimple_2 ⟨Nat.zero_le _, Nat.zero_le _⟩ rfl ?_
  refine v_st (st' := [.int (bI true)]) rfl ?_
  refine v_if_neB (b := true) 10 8 rfl dX1_afterSimple_5 (by decide) (fun c5 => ?_) (fun q => False.elim (by cases q))
  refine v_aload_n 11 rfl dX1_afterSimple_10 rfl rfl ?_
  refine v_get (ci := 1) (C := RX1) (T := TX1) (N := 9) (v := .ref (ad 7)) 14 rfl 4 2 dX1_afterSimple_11 rfl (Nat.le_of_ble_eq_true rfl) i1 (by decide +kernel) rfl rfl ?_
  refine v_iload_n 15 rfl dX1_afterSimple_14 rfl rfl ?_
  refine v_iald (j := t) (v := nI v) 16 rfl 7 0 dX1_afterSimple_15 rfl rfl (by omega) (by decide) hf ?_
  refine v_istore (lv' := [(4, .int (nI v)), (0, .ref (ad 4)), (1, .int (nI t)), (2, .int (nI A)), (3, .ref (ad 1))]) 18 rfl dX1_afterSimple_16 (Nat.le_of_ble_eq_true rfl) rfl ?_
  refine v_aload_n 19 rfl dX1_afterSimple_18 rfl rfl ?_
  refine v_get (ci := 1) (C := RX1) (T := TX1) (N := 9) (v := .ref (ad 8)) 22 rfl 4 3 dX1_afterSimple_19 rfl (Nat.le_of_ble_eq_true rfl) i1 (by decide +kernel) rfl rfl ?_
  refine v_iload_n 23 rfl dX1_afterSimple_22 rfl rfl ?_
  refine v_iald (j := t) (v := nI x) 24 rfl 8 0 dX1_afterSimple_23 rfl rfl (by omega) (by decide) hs ?_
  refine v_istore (lv' := [(5, .int (nI x)), (4, .int (nI v)), (0, .ref (ad 4)), (1, .int (nI t)), (2, .int (nI A)), (3, .ref (ad 1))]) 26 rfl dX1_afterSimple_24 (Nat.le_of_ble_eq_true rfl) rfl ?_
  refine v_iload_n 27 rfl dX1_afterSimple_26 rfl rfl ?_
  refine v_iload 29 rfl dX1_afterSimple_27 rfl ?_
  refine v_callSN (n := 2) 32 rfl (c_heldBy A v (by omega) (by omega)) gX1_afterSimple_X4_heldBy_n60 rfl (by decide +kernel) (by decide +kernel) (by decide +kernel) (by decide +kernel) rfl ⟨(Nat.le_of_ble_eq_true rfl), (Nat.le_of_ble_eq_true rfl)⟩ rfl (Nat.le_of_ble_eq_true rfl) dX1_afterSimple_29 ⟨Nat.zero_le _, Nat.zero_le _⟩ ?_
  refine v_st (st' := [.int (oI (hb A v))]) rfl ?_
  refine v_istore (lv' := [(6, .int (oI (hb A v))), (5, .int (nI x)), (4, .int (nI v)), (0, .ref (ad 4)), (1, .int (nI t)), (2, .int (nI A)), (3, .ref (ad 1))]) 34 rfl dX1_afterSimple_32 (Nat.le_of_ble_eq_true rfl) rfl ?_
  refine v_aload_n 35 rfl dX1_afterSimple_34 rfl rfl ?_
  refine v_get (ci := 1) (C := RX1) (T := TX1) (N := 9) (v := .ref (ad 5)) 38 rfl 4 0 dX1_afterSimple_35 rfl (Nat.le_of_ble_eq_true rfl) i1 (by decide +kernel) rfl rfl ?_
  refine v_iload_n 39 rfl dX1_afterSimple_38 rfl rfl ?_
  refine v_iald (j := t) (v := nI 3) 40 rfl 5 0 dX1_afterSimple_39 rfl rfl (by omega) (by decide) hk ?_
  refine v_if_neN (a := 3) 66 43 rfl dX1_afterSimple_40 (by decide) (by omega) (fun c40 => ?_) (fun q => False.elim (by omega))
  refine v_iload 68 rfl dX1_afterSimple_66 rfl ?_
  refine v_iconst (v := -1) 69 rfl dX1_afterSimple_68 (by decide) ?_
  refine v_icmp_ne 75 72 rfl dX1_afterSimple_69 (by decide) (fun c69 => ?_) (fun c69 => ?_)
  · have z : hb A v ≠ 0 := fun h => c69 ((oI_m1 (by have := hb_lt A v; omega)).mpr h)
    have hle := hb_lt A v
    refine v_aload_n 76 rfl dX1_afterSimple_75 rfl rfl ?_
    refine v_get (ci := 1) (C := RX1) (T := TX1) (N := 9) (v := .ref (ad 5)) 79 rfl 4 0 dX1_afterSimple_76 rfl (Nat.le_of_ble_eq_true rfl) i1 (by decide +kernel) rfl rfl ?_
    refine v_iload_n 80 rfl dX1_afterSimple_79 rfl rfl ?_
    refine v_iald (j := t) (v := nI 3) 81 rfl 5 0 dX1_afterSimple_80 rfl rfl (by omega) (by decide) hk ?_
    refine v_iconst (v := nI 1) 82 rfl dX1_afterSimple_81 (by decide) ?_
    refine v_icmp_neN (a := 3) (b := 1) 123 85 rfl dX1_afterSimple_82 (by decide) (by omega) (by omega) (fun c82 => ?_) (fun q => False.elim (by omega))
    refine v_aload_n 124 rfl dX1_afterSimple_123 rfl rfl ?_
    refine v_get (ci := 1) (C := RX1) (T := TX1) (N := 9) (v := .ref (ad 5)) 127 rfl 4 0 dX1_afterSimple_124 rfl (Nat.le_of_ble_eq_true rfl) i1 (by decide +kernel) rfl rfl ?_
    refine v_iload_n 128 rfl dX1_afterSimple_127 rfl rfl ?_
    refine v_iald (j := t) (v := nI 3) 129 rfl 5 0 dX1_afterSimple_128 rfl rfl (by omega) (by decide) hk ?_
    refine v_iconst (v := nI 2) 130 rfl dX1_afterSimple_129 (by decide) ?_
    refine v_icmp_neN (a := 3) (b := 2) 162 133 rfl dX1_afterSimple_130 (by decide) (by omega) (by omega) (fun c130 => ?_) (fun q => False.elim (by omega))
    refine v_aload_n 163 rfl dX1_afterSimple_162 rfl rfl ?_
    refine v_iload 165 rfl dX1_afterSimple_163 rfl ?_
    refine v_top (v' := nI (hb A v - 1)) (oI_p (by omega)) ?_
    refine v_callF (n := 1) (q0 := 1) (ci := 2) 168 rfl (c_mayBeLeft (hb A v - 1) (fb (hb A v - 1)) (by omega) hfn) gX1_afterSimple_X2_mayBeLeft rfl (by decide +kernel) rfl ⟨(Nat.le_of_ble_eq_true rfl), (Nat.le_of_ble_eq_true rfl)⟩ rfl (Nat.le_of_ble_eq_true rfl) rfl rfl rfl dX1_afterSimple_165 ⟨Nat.zero_le _, Nat.zero_le _⟩ rfl ?_
    refine v_st (st' := [.int (bI (fb (hb A v - 1)))]) rfl ?_
    refine v_if_eqB (b := fb (hb A v - 1)) 181 171 rfl dX1_afterSimple_168 (by decide) (fun c168 => ?_) (fun c168 => ?_)
    · refine v_bipush (v := -4) 183 rfl dX1_afterSimple_181 (by decide) ?_
      exact v_iret dX1_afterSimple_183 rfl (by simp [sim, fI, *] <;> rfl) rfl
    · refine v_iload_n 172 rfl dX1_afterSimple_171 rfl rfl ?_
      refine v_iload 174 rfl dX1_afterSimple_172 rfl ?_
      refine v_iconst (v := -1) 175 rfl dX1_afterSimple_174 (by decide) ?_
      refine v_callSN (n := 3) 178 rfl (c_withHeld A v 0 (by omega) (by omega) (by omega)) gX1_afterSimple_X4_withHeld_n67 rfl (by decide +kernel) (by decide +kernel) (by decide +kernel) (by decide +kernel) rfl ⟨(Nat.le_of_ble_eq_true rfl), (Nat.le_of_ble_eq_true rfl)⟩ rfl (Nat.le_of_ble_eq_true rfl) dX1_afterSimple_175 ⟨Nat.zero_le _, Nat.zero_le _⟩ ?_
      refine v_st (st' := [.int (nI (wh A v 0))]) rfl ?_
      refine v_goto 183 dX1_afterSimple_178 (by decide) ?_
      exact v_iret dX1_afterSimple_183 rfl (by simp [sim, fI, *] <;> rfl) rfl
  · have z : hb A v = 0 := (oI_m1 (by have := hb_lt A v; omega)).mp c69
    refine v_bipush (v := -2) 74 rfl dX1_afterSimple_72 (by decide) ?_
    exact v_iret dX1_afterSimple_74 rfl (by simp [sim, fI, *] <;> rfl) rfl

theorem c_afterSimple {D : va_G} {cI cZ cJ : ClassId} {l : Launch} {ad : Nat → Nat} {tg : Nat → Int32} {fn : Nat → Int32} {ki : Nat → Int32} {nu : Nat → Int32} {fi : Nat → Int32} {se : Nat → Int32} {ju : Nat → Int32} {op : Nat → Int32} {en : Nat} {sm : Nat} {ob : Nat} {be : Nat → Int32} {af : Nat → Int32} {pl : Int32} {rf : Int32} {rp : Int32} {rs : Nat} {ra : Nat} {rb : Int32} {rl : Nat} (tn : Nat → Nat) (fb : Nat → Bool) (t d v x A : Nat) (hte : t < en) (hen : en ≤ 120) (hk : ki t = nI d) (hd : d < 4) (hv : v < 4) (hx : x < 4) (hx3 : d = 0 → x < 3) (hA : A < 2 ^ 20) (hob : ∀ v, v < 4 → hb A v ≤ 24) (hf : fi t = nI v) (hs : se t = nI x) (htg : ∀ i, i < 96 → tg i = oI (tn i) ∧ tn i ≤ 5) (hfn : ∀ o, o < 24 → fn o = bI (fb o)) : KM D (tyL cI cZ cJ) l yX1_afterSimple wsX1_afterSimple 2 43 [.ref (ad 4), .int (nI t), .int (nI A), .ref (ad 1)] (wC ad cI cZ tg fn ki nu fi se ju op en sm ob be af pl rf rp rs ra rb rl) (some (.int (fI (sim tn fb d v x A).1 (sim tn fb d v x A).2))) (wC ad cI cZ tg fn ki nu fi se ju op en sm ob be af pl rf rp rs ra rb rl) := by
  by_cases hz : hb A v = 0
  · rcases (show d = 0 ∨ d = 1 ∨ d = 2 ∨ d = 3 by omega) with rfl | rfl | rfl | rfl
    · exact c_afterSimple0 tn fb t v x A hte hen hv hA hf hs hk (hx3 rfl)
    · exact c_afterSimple1 tn fb t v x A hte hen hv hA hf hs hk hx (hob v hv) (htg _ (by omega)).1 (htg _ (by omega)).2
    · exact c_afterSimple2 tn fb t v x A hte hen hv hA hf hs hk hx
    · exact c_afterSimple3 tn fb t v x A hte hen hv hA hf hs hk (hob v hv) (hfn _ (by omega))
  · have h1 := hob v hv
    rcases (show d = 0 ∨ d = 1 ∨ d = 2 ∨ d = 3 by omega) with rfl | rfl | rfl | rfl
    · exact c_afterSimple0 tn fb t v x A hte hen hv hA hf hs hk (hx3 rfl)
    · exact c_afterSimple1 tn fb t v x A hte hen hv hA hf hs hk hx (hob v hv) (htg _ (by omega)).1 (htg _ (by omega)).2
    · exact c_afterSimple2 tn fb t v x A hte hen hv hA hf hs hk hx
    · exact c_afterSimple3 tn fb t v x A hte hen hv hA hf hs hk (hob v hv) (hfn _ (by omega))

set_option maxRecDepth 100000 in
set_option maxHeartbeats 4000000 in
theorem c_heldBefore {D : va_G} {cI cZ cJ : ClassId} {l : Launch} {ad : Nat → Nat} {tg : Nat → Int32} {fn : Nat → Int32} {ki : Nat → Int32} {nu : Nat → Int32} {fi : Nat → Int32} {se : Nat → Int32} {ju : Nat → Int32} {op : Nat → Int32} {en : Nat} {sm : Nat} {ob : Nat} {be : Nat → Int32} {af : Nat → Int32} {pl : Int32} {rf : Int32} {rp : Int32} {rs : Nat} {ra : Nat} {rb : Int32} {rl : Nat} (n : Nat) (b : Int32) (hn : n < 40) (hb : be n = b) : KM D (tyL cI cZ cJ) l yX0_heldBefore wsX0_heldBefore 1 21 [.ref (ad 11), .int (nI n)] (wC ad cI cZ tg fn ki nu fi se ju op en sm ob be af pl rf rp rs ra rb rl) (some (.int b)) (wC ad cI cZ tg fn ki nu fi se ju op en sm ob be af pl rf rp rs ra rb rl) := by
  refine KM.of (cc := cX0_heldBefore) (nL := 2) (ret := (some .int)) (by decide +kernel) rfl (Nat.le_of_ble_eq_true rfl) ?_
  have i0 : ∀ w ∈ u_ws RX0 TX0 5, w ∈ wsX0_heldBefore := by decide +kernel
  refine v_iload_n 1 rfl dX0_heldBefore_0 rfl rfl ?_
  refine v_bipush (v := nI 40) 3 rfl dX0_heldBefore_1 (by decide) ?_
  refine v_callSN (n := 2) 6 rfl (c_isBelowT n 40 (by omega) (by omega)) gX0_heldBefore_X4_isBelow_n36 rfl (by decide +kernel) (by decide +kernel) (by decide +kernel) (by decide +kernel) rfl ⟨(Nat.le_of_ble_eq_true rfl), (Nat.le_of_ble_eq_true rfl)⟩ rfl (Nat.le_of_ble_eq_true rfl) dX0_heldBefore_3 ⟨Nat.zero_le _, Nat.zero_le _⟩ ?_
  refine v_st (st' := [.int (bI true)]) rfl ?_
  refine v_if_eqB (b := true) 18 9 rfl dX0_heldBefore_6 (by decide) (fun q => False.elim (by cases q)) (fun c6 => ?_)
  refine v_aload_n 10 rfl dX0_heldBefore_9 rfl rfl ?_
  refine v_get (ci := 0) (C := RX0) (T := TX0) (N := 5) (v := .ref (ad 12)) 13 rfl 11 2 dX0_heldBefore_10 rfl (Nat.le_of_ble_eq_true rfl) i0 (by decide +kernel) rfl rfl ?_
  refine v_iload_n 14 rfl dX0_heldBefore_13 rfl rfl ?_
  refine v_iald (j := n) (v := b) 15 rfl 12 0 dX0_heldBefore_14 rfl rfl (by omega) (by decide) hb ?_
  refine v_goto 19 dX0_heldBefore_15 (by decide) ?_
  exact v_iret dX0_heldBefore_19 rfl rfl rfl

set_option maxRecDepth 100000 in
set_option maxHeartbeats 4000000 in
theorem c_heldBeforeNo {D : va_G} {cI cZ cJ : ClassId} {l : Launch} {ad : Nat → Nat} {tg : Nat → Int32} {fn : Nat → Int32} {ki : Nat → Int32} {nu : Nat → Int32} {fi : Nat → Int32} {se : Nat → Int32} {ju : Nat → Int32} {op : Nat → Int32} {en : Nat} {sm : Nat} {ob : Nat} {be : Nat → Int32} {af : Nat → Int32} {pl : Int32} {rf : Int32} {rp : Int32} {rs : Nat} {ra : Nat} {rb : Int32} {rl : Nat} (a : Int32) (h : bel a (nI 40) = false) : KM D (tyL cI cZ cJ) l yX0_heldBefore wsX0_heldBefore 1 21 [.ref (ad 11), .int a] (wC ad cI cZ tg fn ki nu fi se ju op en sm ob be af pl rf rp rs ra rb rl) (some (.int (-1))) (wC ad cI cZ tg fn ki nu fi se ju op en sm ob be af pl rf rp rs ra rb rl) := by
  refine KM.of (cc := cX0_heldBefore) (nL := 2) (ret := (some .int)) (by decide +kernel) rfl (Nat.le_of_ble_eq_true rfl) ?_
  refine v_iload_n 1 rfl dX0_heldBefore_0 rfl rfl ?_
  refine v_bipush (v := nI 40) 3 rfl dX0_heldBefore_1 (by decide) ?_
  refine v_callSN (n := 2) 6 rfl (c_isBelow a (nI 40)) gX0_heldBefore_X4_isBelow_n36 rfl (by decide +kernel) (by decide +kernel) (by decide +kernel) (by decide +kernel) rfl ⟨(Nat.le_of_ble_eq_true rfl), (Nat.le_of_ble_eq_true rfl)⟩ rfl (Nat.le_of_ble_eq_true rfl) dX0_heldBefore_3 ⟨Nat.zero_le _, Nat.zero_le _⟩ ?_
  refine v_st (st' := [.int (bI (bel a (nI 40)))]) rfl ?_
  refine v_if_eqB (b := bel a (nI 40)) 18 9 rfl dX0_heldBefore_6 (by decide) (fun c6 => ?_) (fun q => False.elim (by rw [h] at q; cases q))
  refine v_iconst (v := -1) 19 rfl dX0_heldBefore_18 (by decide) ?_
  exact v_iret dX0_heldBefore_19 rfl rfl rfl

/-- an entry (its kind d, its number n) of a checking: the fault, what is held behind it, the rows before and afterThen -/
def cst (tn : Nat → Nat) (fb : Nat → Bool) (d n v x A : Nat) (be af : Nat → Int32) : Nat × Nat × (Nat → Int32) × (Nat → Int32) :=
  if d = 5 then (0, tN (be n), be, upd af n (nI A))
  else if d = 6 then (if A = tN (af n) then 0 else 5, A, be, af)
  else if d = 8 then (if A = tN (be n) then 0 else 6, A, be, af)
  else if d = 4 ∨ d = 7 then (0, A, upd be n (nI A), af)
  else ((sim tn fb d v x A).1, (sim tn fb d v x A).2, upd be n (nI A), af)

set_option maxRecDepth 100000 in
set_option maxHeartbeats 4000000 in
theorem c_aeElse {D : va_G} {cI cZ cJ : ClassId} {l : Launch} {ad : Nat → Nat} {tg : Nat → Int32} {fn : Nat → Int32} {ki : Nat → Int32} {nu : Nat → Int32} {fi : Nat → Int32} {se : Nat → Int32} {ju : Nat → Int32} {op : Nat → Int32} {en : Nat} {sm : Nat} {ob : Nat} {be : Nat → Int32} {af : Nat → Int32} {pl : Int32} {rf : Int32} {rp : Int32} {rs : Nat} {ra : Nat} {rb : Int32} {rl : Nat} (t n A : Nat) (hte : t < en) (hen : en ≤ 120) (hnu : nu t = nI n) (hn : n < 40) (hA : A < 2 ^ 20) (B : Nat) (hk : ki t = nI 5) (hB : be n = nI B) : KM D (tyL cI cZ cJ) l yX0_afterEntry wsX0_afterEntry 3 70 [.ref (ad 11), .int (nI t), .int (nI A)] (wC ad cI cZ tg fn ki nu fi se ju op en sm ob be af pl rf rp rs ra rb rl) (some (.int (nI B))) (wC ad cI cZ tg fn ki nu fi se ju op en sm ob be (upd af n (nI A)) pl rf rp rs ra rb rl) := by
  refine KM.of (cc := cX0_afterEntry) (nL := 4) (ret := (some .int)) (by decide +kernel) rfl (Nat.le_of_ble_eq_true rfl) ?_
  have i0 : ∀ w ∈ u_ws RX0 TX0 5, w ∈ wsX0_afterEntry := by decide +kernel
  have i1 : ∀ w ∈ u_ws RX1 TX1 9, w ∈ wsX0_afterEntry := by decide +kernel
  refine v_aload_n 1 rfl dX0_afterEntry_0 rfl rfl ?_
  refine v_get (ci := 0) (C := RX0) (T := TX0) (N := 5) (v := .ref (ad 4)) 4 rfl 11 0 dX0_afterEntry_1 rfl (Nat.le_of_ble_eq_true rfl) i0 (by decide +kernel) rfl rfl ?_
  refine v_iload_n 5 rfl dX0_afterEntry_4 rfl rfl ?_
  refine v_callF (n := 1) (q0 := 4) (ci := 1) 8 rfl (c_hasEntryT t (by omega) (by omega)) gX0_afterEntry_X1_hasEntry rfl (by decide +kernel) rfl ⟨(Nat.le_of_ble_eq_true rfl), (Nat.le_of_ble_eq_true rfl)⟩ rfl (Nat.le_of_ble_eq_true rfl) rfl rfl rfl dX0_afterEntry_5 ⟨Nat.zero_le _, Nat.zero_le _⟩ rfl ?_
  refine v_st (st' := [.int (bI true)]) rfl ?_
  refine v_if_eqB (b := true) 23 11 rfl dX0_afterEntry_8 (by decide) (fun q => False.elim (by cases q)) (fun c8 => ?_)
  refine v_aload_n 12 rfl dX0_afterEntry_11 rfl rfl ?_
  refine v_get (ci := 0) (C := RX0) (T := TX0) (N := 5) (v := .ref (ad 4)) 15 rfl 11 0 dX0_afterEntry_12 rfl (Nat.le_of_ble_eq_true rfl) i0 (by decide +kernel) rfl rfl ?_
  refine v_getN (ci := 1) (C := RX1) (T := TX1) (N := 9) (v := .ref (ad 6)) 18 rfl 4 1 dX0_afterEntry_15 rfl (Nat.le_of_ble_eq_true rfl) i1 (by decide +kernel) rfl rfl ?_
  refine v_iload_n 19 rfl dX0_afterEntry_18 rfl rfl ?_
  refine v_iald (j := t) (v := nI n) 20 rfl 6 0 dX0_afterEntry_19 rfl rfl (by omega) (by decide) hnu ?_
  refine v_goto 24 dX0_afterEntry_20 (by decide) ?_
  refine v_istore_n (lv' := [(3, .int (nI n)), (0, .ref (ad 11)), (1, .int (nI t)), (2, .int (nI A))]) 25 rfl dX0_afterEntry_24 rfl (Nat.le_of_ble_eq_true rfl) rfl ?_
  refine v_iload_n 26 rfl dX0_afterEntry_25 rfl rfl ?_
  refine v_bipush (v := nI 40) 28 rfl dX0_afterEntry_26 (by decide) ?_
  refine v_callSN (n := 2) 31 rfl (c_isBelowT n 40 (by omega) (by omega)) gX0_afterEntry_X4_isBelow_n36 rfl (by decide +kernel) (by decide +kernel) (by decide +kernel) (by decide +kernel) rfl ⟨(Nat.le_of_ble_eq_true rfl), (Nat.le_of_ble_eq_true rfl)⟩ rfl (Nat.le_of_ble_eq_true rfl) dX0_afterEntry_28 ⟨Nat.zero_le _, Nat.zero_le _⟩ ?_
  refine v_st (st' := [.int (bI true)]) rfl ?_
  refine v_if_neB (b := true) 36 34 rfl dX0_afterEntry_31 (by decide) (fun c31 => ?_) (fun q => False.elim (by cases q))
  refine v_aload_n 37 rfl dX0_afterEntry_36 rfl rfl ?_
  refine v_get (ci := 0) (C := RX0) (T := TX0) (N := 5) (v := .ref (ad 4)) 40 rfl 11 0 dX0_afterEntry_37 rfl (Nat.le_of_ble_eq_true rfl) i0 (by decide +kernel) rfl rfl ?_
  refine v_getN (ci := 1) (C := RX1) (T := TX1) (N := 9) (v := .ref (ad 5)) 43 rfl 4 0 dX0_afterEntry_40 rfl (Nat.le_of_ble_eq_true rfl) i1 (by decide +kernel) rfl rfl ?_
  refine v_iload_n 44 rfl dX0_afterEntry_43 rfl rfl ?_
  refine v_iald (j := t) (v := nI 5) 45 rfl 5 0 dX0_afterEntry_44 rfl rfl (by omega) (by decide) hk ?_
  refine v_tabIn (a := 5) 80 dX0_afterEntry_45 (by omega) (by omega) (by omega) rfl (by decide) ?_
  refine v_aload_n 81 rfl dX0_afterEntry_80 rfl rfl ?_
  refine v_get (ci := 0) (C := RX0) (T := TX0) (N := 5) (v := .ref (ad 13)) 84 rfl 11 3 dX0_afterEntry_81 rfl (Nat.le_of_ble_eq_true rfl) i0 (by decide +kernel) rfl rfl ?_
  refine v_iload_n 85 rfl dX0_afterEntry_84 rfl rfl ?_
  refine v_iload_n 86 rfl dX0_afterEntry_85 rfl rfl ?_
  refine v_iast (j := n) (w' := wC ad cI cZ tg fn ki nu fi se ju op en sm ob be (upd af n (nI A)) pl rf rp rs ra rb rl) 87 rfl 13 0 dX0_afterEntry_86 rfl rfl (by omega) (by decide) rfl ?_
  refine v_aload_n 88 rfl dX0_afterEntry_87 rfl rfl ?_
  refine v_get (ci := 0) (C := RX0) (T := TX0) (N := 5) (v := .ref (ad 12)) 91 rfl 11 2 dX0_afterEntry_88 rfl (Nat.le_of_ble_eq_true rfl) i0 (by decide +kernel) rfl rfl ?_
  refine v_iload_n 92 rfl dX0_afterEntry_91 rfl rfl ?_
  refine v_iald (j := n) (v := nI B) 93 rfl 12 0 dX0_afterEntry_92 rfl rfl (by omega) (by decide) hB ?_
  exact v_iret dX0_afterEntry_93 rfl rfl rfl

set_option maxRecDepth 100000 in
set_option maxHeartbeats 4000000 in
theorem c_aeEndIf {D : va_G} {cI cZ cJ : ClassId} {l : Launch} {ad : Nat → Nat} {tg : Nat → Int32} {fn : Nat → Int32} {ki : Nat → Int32} {nu : Nat → Int32} {fi : Nat → Int32} {se : Nat → Int32} {ju : Nat → Int32} {op : Nat → Int32} {en : Nat} {sm : Nat} {ob : Nat} {be : Nat → Int32} {af : Nat → Int32} {pl : Int32} {rf : Int32} {rp : Int32} {rs : Nat} {ra : Nat} {rb : Int32} {rl : Nat} (t n A : Nat) (hte : t < en) (hen : en ≤ 120) (hnu : nu t = nI n) (hn : n < 40) (hA : A < 2 ^ 20) (B : Nat) (hk : ki t = nI 6) (hB : af n = nI B) (hB2 : B < 2 ^ 20) : KM D (tyL cI cZ cJ) l yX0_afterEntry wsX0_afterEntry 3 70 [.ref (ad 11), .int (nI t), .int (nI A)] (wC ad cI cZ tg fn ki nu fi se ju op en sm ob be af pl rf rp rs ra rb rl) (some (.int (fI (if A = B then 0 else 5) A))) (wC ad cI cZ tg fn ki nu fi se ju op en sm ob be af pl rf rp rs ra rb rl) := by
  refine KM.of (cc := cX0_afterEntry) (nL := 4) (ret := (some .int)) (by decide +kernel) rfl (Nat.le_of_ble_eq_true rfl) ?_
  have i0 : ∀ w ∈ u_ws RX0 TX0 5, w ∈ wsX0_afterEntry := by decide +kernel
  have i1 : ∀ w ∈ u_ws RX1 TX1 9, w ∈ wsX0_afterEntry := by decide +kernel
  refine v_aload_n 1 rfl dX0_afterEntry_0 rfl rfl ?_
  refine v_get (ci := 0) (C := RX0) (T := TX0) (N := 5) (v := .ref (ad 4)) 4 rfl 11 0 dX0_afterEntry_1 rfl (Nat.le_of_ble_eq_true rfl) i0 (by decide +kernel) rfl rfl ?_
  refine v_iload_n 5 rfl dX0_afterEntry_4 rfl rfl ?_
  refine v_callF (n := 1) (q0 := 4) (ci := 1) 8 rfl (c_hasEntryT t (by omega) (by omega)) gX0_afterEntry_X1_hasEntry rfl (by decide +kernel) rfl ⟨(Nat.le_of_ble_eq_true rfl), (Nat.le_of_ble_eq_true rfl)⟩ rfl (Nat.le_of_ble_eq_true rfl) rfl rfl rfl dX0_afterEntry_5 ⟨Nat.zero_le _, Nat.zero_le _⟩ rfl ?_
  refine v_st (st' := [.int (bI true)]) rfl ?_
  refine v_if_eqB (b := true) 23 11 rfl dX0_afterEntry_8 (by decide) (fun q => False.elim (by cases q)) (fun c8 => ?_)
  refine v_aload_n 12 rfl dX0_afterEntry_11 rfl rfl ?_
  refine v_get (ci := 0) (C := RX0) (T := TX0) (N := 5) (v := .ref (ad 4)) 15 rfl 11 0 dX0_afterEntry_12 rfl (Nat.le_of_ble_eq_true rfl) i0 (by decide +kernel) rfl rfl ?_
  refine v_getN (ci := 1) (C := RX1) (T := TX1) (N := 9) (v := .ref (ad 6)) 18 rfl 4 1 dX0_afterEntry_15 rfl (Nat.le_of_ble_eq_true rfl) i1 (by decide +kernel) rfl rfl ?_
  refine v_iload_n 19 rfl dX0_afterEntry_18 rfl rfl ?_
  refine v_iald (j := t) (v := nI n) 20 rfl 6 0 dX0_afterEntry_19 rfl rfl (by omega) (by decide) hnu ?_
  refine v_goto 24 dX0_afterEntry_20 (by decide) ?_
  refine v_istore_n (lv' := [(3, .int (nI n)), (0, .ref (ad 11)), (1, .int (nI t)), (2, .int (nI A))]) 25 rfl dX0_afterEntry_24 rfl (Nat.le_of_ble_eq_true rfl) rfl ?_
  refine v_iload_n 26 rfl dX0_afterEntry_25 rfl rfl ?_
  refine v_bipush (v := nI 40) 28 rfl dX0_afterEntry_26 (by decide) ?_
  refine v_callSN (n := 2) 31 rfl (c_isBelowT n 40 (by omega) (by omega)) gX0_afterEntry_X4_isBelow_n36 rfl (by decide +kernel) (by decide +kernel) (by decide +kernel) (by decide +kernel) rfl ⟨(Nat.le_of_ble_eq_true rfl), (Nat.le_of_ble_eq_true rfl)⟩ rfl (Nat.le_of_ble_eq_true rfl) dX0_afterEntry_28 ⟨Nat.zero_le _, Nat.zero_le _⟩ ?_
  refine v_st (st' := [.int (bI true)]) rfl ?_
  refine v_if_neB (b := true) 36 34 rfl dX0_afterEntry_31 (by decide) (fun c31 => ?_) (fun q => False.elim (by cases q))
  refine v_aload_n 37 rfl dX0_afterEntry_36 rfl rfl ?_
  refine v_get (ci := 0) (C := RX0) (T := TX0) (N := 5) (v := .ref (ad 4)) 40 rfl 11 0 dX0_afterEntry_37 rfl (Nat.le_of_ble_eq_true rfl) i0 (by decide +kernel) rfl rfl ?_
  refine v_getN (ci := 1) (C := RX1) (T := TX1) (N := 9) (v := .ref (ad 5)) 43 rfl 4 0 dX0_afterEntry_40 rfl (Nat.le_of_ble_eq_true rfl) i1 (by decide +kernel) rfl rfl ?_
  refine v_iload_n 44 rfl dX0_afterEntry_43 rfl rfl ?_
  refine v_iald (j := t) (v := nI 6) 45 rfl 5 0 dX0_afterEntry_44 rfl rfl (by omega) (by decide) hk ?_
  refine v_tabIn (a := 6) 94 dX0_afterEntry_45 (by omega) (by omega) (by omega) rfl (by decide) ?_
  refine v_iload_n 95 rfl dX0_afterEntry_94 rfl rfl ?_
  refine v_aload_n 96 rfl dX0_afterEntry_95 rfl rfl ?_
  refine v_get (ci := 0) (C := RX0) (T := TX0) (N := 5) (v := .ref (ad 13)) 99 rfl 11 3 dX0_afterEntry_96 rfl (Nat.le_of_ble_eq_true rfl) i0 (by decide +kernel) rfl rfl ?_
  refine v_iload_n 100 rfl dX0_afterEntry_99 rfl rfl ?_
  refine v_iald (j := n) (v := nI B) 101 rfl 13 0 dX0_afterEntry_100 rfl rfl (by omega) (by decide) hB ?_
  refine v_icmp_neN (a := A) (b := B) 108 104 rfl dX0_afterEntry_101 (by decide) (by omega) (by omega) (fun c101 => ?_) (fun c101 => ?_)
  · refine v_bipush (v := -5) 110 rfl dX0_afterEntry_108 (by decide) ?_
    exact v_iret dX0_afterEntry_110 rfl (by simp [fI, *] <;> rfl) rfl
  · refine v_iload_n 105 rfl dX0_afterEntry_104 rfl rfl ?_
    refine v_goto 110 dX0_afterEntry_105 (by decide) ?_
    exact v_iret dX0_afterEntry_110 rfl (by simp [fI, *] <;> rfl) rfl

set_option maxRecDepth 100000 in
set_option maxHeartbeats 4000000 in
theorem c_aeEndWhile {D : va_G} {cI cZ cJ : ClassId} {l : Launch} {ad : Nat → Nat} {tg : Nat → Int32} {fn : Nat → Int32} {ki : Nat → Int32} {nu : Nat → Int32} {fi : Nat → Int32} {se : Nat → Int32} {ju : Nat → Int32} {op : Nat → Int32} {en : Nat} {sm : Nat} {ob : Nat} {be : Nat → Int32} {af : Nat → Int32} {pl : Int32} {rf : Int32} {rp : Int32} {rs : Nat} {ra : Nat} {rb : Int32} {rl : Nat} (t n A : Nat) (hte : t < en) (hen : en ≤ 120) (hnu : nu t = nI n) (hn : n < 40) (hA : A < 2 ^ 20) (B : Nat) (hk : ki t = nI 8) (hB : be n = nI B) (hB2 : B < 2 ^ 20) : KM D (tyL cI cZ cJ) l yX0_afterEntry wsX0_afterEntry 3 70 [.ref (ad 11), .int (nI t), .int (nI A)] (wC ad cI cZ tg fn ki nu fi se ju op en sm ob be af pl rf rp rs ra rb rl) (some (.int (fI (if A = B then 0 else 6) A))) (wC ad cI cZ tg fn ki nu fi se ju op en sm ob be af pl rf rp rs ra rb rl) := by
  refine KM.of (cc := cX0_afterEntry) (nL := 4) (ret := (some .int)) (by decide +kernel) rfl (Nat.le_of_ble_eq_true rfl) ?_
  have i0 : ∀ w ∈ u_ws RX0 TX0 5, w ∈ wsX0_afterEntry := by decide +kernel
  have i1 : ∀ w ∈ u_ws RX1 TX1 9, w ∈ wsX0_afterEntry := by decide +kernel
  refine v_aload_n 1 rfl dX0_afterEntry_0 rfl rfl ?_
  refine v_get (ci := 0) (C := RX0) (T := TX0) (N := 5) (v := .ref (ad 4)) 4 rfl 11 0 dX0_afterEntry_1 rfl (Nat.le_of_ble_eq_true rfl) i0 (by decide +kernel) rfl rfl ?_
  refine v_iload_n 5 rfl dX0_afterEntry_4 rfl rfl ?_
  refine v_callF (n := 1) (q0 := 4) (ci := 1) 8 rfl (c_hasEntryT t (by omega) (by omega)) gX0_afterEntry_X1_hasEntry rfl (by decide +kernel) rfl ⟨(Nat.le_of_ble_eq_true rfl), (Nat.le_of_ble_eq_true rfl)⟩ rfl (Nat.le_of_ble_eq_true rfl) rfl rfl rfl dX0_afterEntry_5 ⟨Nat.zero_le _, Nat.zero_le _⟩ rfl ?_
  refine v_st (st' := [.int (bI true)]) rfl ?_
  refine v_if_eqB (b := true) 23 11 rfl dX0_afterEntry_8 (by decide) (fun q => False.elim (by cases q)) (fun c8 => ?_)
  refine v_aload_n 12 rfl dX0_afterEntry_11 rfl rfl ?_
  refine v_get (ci := 0) (C := RX0) (T := TX0) (N := 5) (v := .ref (ad 4)) 15 rfl 11 0 dX0_afterEntry_12 rfl (Nat.le_of_ble_eq_true rfl) i0 (by decide +kernel) rfl rfl ?_
  refine v_getN (ci := 1) (C := RX1) (T := TX1) (N := 9) (v := .ref (ad 6)) 18 rfl 4 1 dX0_afterEntry_15 rfl (Nat.le_of_ble_eq_true rfl) i1 (by decide +kernel) rfl rfl ?_
  refine v_iload_n 19 rfl dX0_afterEntry_18 rfl rfl ?_
  refine v_iald (j := t) (v := nI n) 20 rfl 6 0 dX0_afterEntry_19 rfl rfl (by omega) (by decide) hnu ?_
  refine v_goto 24 dX0_afterEntry_20 (by decide) ?_
  refine v_istore_n (lv' := [(3, .int (nI n)), (0, .ref (ad 11)), (1, .int (nI t)), (2, .int (nI A))]) 25 rfl dX0_afterEntry_24 rfl (Nat.le_of_ble_eq_true rfl) rfl ?_
  refine v_iload_n 26 rfl dX0_afterEntry_25 rfl rfl ?_
  refine v_bipush (v := nI 40) 28 rfl dX0_afterEntry_26 (by decide) ?_
  refine v_callSN (n := 2) 31 rfl (c_isBelowT n 40 (by omega) (by omega)) gX0_afterEntry_X4_isBelow_n36 rfl (by decide +kernel) (by decide +kernel) (by decide +kernel) (by decide +kernel) rfl ⟨(Nat.le_of_ble_eq_true rfl), (Nat.le_of_ble_eq_true rfl)⟩ rfl (Nat.le_of_ble_eq_true rfl) dX0_afterEntry_28 ⟨Nat.zero_le _, Nat.zero_le _⟩ ?_
  refine v_st (st' := [.int (bI true)]) rfl ?_
  refine v_if_neB (b := true) 36 34 rfl dX0_afterEntry_31 (by decide) (fun c31 => ?_) (fun q => False.elim (by cases q))
  refine v_aload_n 37 rfl dX0_afterEntry_36 rfl rfl ?_
  refine v_get (ci := 0) (C := RX0) (T := TX0) (N := 5) (v := .ref (ad 4)) 40 rfl 11 0 dX0_afterEntry_37 rfl (Nat.le_of_ble_eq_true rfl) i0 (by decide +kernel) rfl rfl ?_
  refine v_getN (ci := 1) (C := RX1) (T := TX1) (N := 9) (v := .ref (ad 5)) 43 rfl 4 0 dX0_afterEntry_40 rfl (Nat.le_of_ble_eq_true rfl) i1 (by decide +kernel) rfl rfl ?_
  refine v_iload_n 44 rfl dX0_afterEntry_43 rfl rfl ?_
  refine v_iald (j := t) (v := nI 8) 45 rfl 5 0 dX0_afterEntry_44 rfl rfl (by omega) (by decide) hk ?_
  refine v_tabIn (a := 8) 111 dX0_afterEntry_45 (by omega) (by omega) (by omega) rfl (by decide) ?_
  refine v_iload_n 112 rfl dX0_afterEntry_111 rfl rfl ?_
  refine v_aload_n 113 rfl dX0_afterEntry_112 rfl rfl ?_
  refine v_get (ci := 0) (C := RX0) (T := TX0) (N := 5) (v := .ref (ad 12)) 116 rfl 11 2 dX0_afterEntry_113 rfl (Nat.le_of_ble_eq_true rfl) i0 (by decide +kernel) rfl rfl ?_
  refine v_iload_n 117 rfl dX0_afterEntry_116 rfl rfl ?_
  refine v_iald (j := n) (v := nI B) 118 rfl 12 0 dX0_afterEntry_117 rfl rfl (by omega) (by decide) hB ?_
  refine v_icmp_neN (a := A) (b := B) 125 121 rfl dX0_afterEntry_118 (by decide) (by omega) (by omega) (fun c118 => ?_) (fun c118 => ?_)
  · refine v_bipush (v := -6) 127 rfl dX0_afterEntry_125 (by decide) ?_
    exact v_iret dX0_afterEntry_127 rfl (by simp [fI, *] <;> rfl) rfl
  · refine v_iload_n 122 rfl dX0_afterEntry_121 rfl rfl ?_
    refine v_goto 127 dX0_afterEntry_122 (by decide) ?_
    exact v_iret dX0_afterEntry_127 rfl (by simp [fI, *] <;> rfl) rfl

set_option maxRecDepth 100000 in
set_option maxHeartbeats 4000000 in
theorem c_aeOpen4 {D : va_G} {cI cZ cJ : ClassId} {l : Launch} {ad : Nat → Nat} {tg : Nat → Int32} {fn : Nat → Int32} {ki : Nat → Int32} {nu : Nat → Int32} {fi : Nat → Int32} {se : Nat → Int32} {ju : Nat → Int32} {op : Nat → Int32} {en : Nat} {sm : Nat} {ob : Nat} {be : Nat → Int32} {af : Nat → Int32} {pl : Int32} {rf : Int32} {rp : Int32} {rs : Nat} {ra : Nat} {rb : Int32} {rl : Nat} (t n A : Nat) (hte : t < en) (hen : en ≤ 120) (hnu : nu t = nI n) (hn : n < 40) (hA : A < 2 ^ 20) (hk : ki t = nI 4) : KM D (tyL cI cZ cJ) l yX0_afterEntry wsX0_afterEntry 3 70 [.ref (ad 11), .int (nI t), .int (nI A)] (wC ad cI cZ tg fn ki nu fi se ju op en sm ob be af pl rf rp rs ra rb rl) (some (.int (nI A))) (wC ad cI cZ tg fn ki nu fi se ju op en sm ob (upd be n (nI A)) af pl rf rp rs ra rb rl) := by
  refine KM.of (cc := cX0_afterEntry) (nL := 4) (ret := (some .int)) (by decide +kernel) rfl (Nat.le_of_ble_eq_true rfl) ?_
  have i0 : ∀ w ∈ u_ws RX0 TX0 5, w ∈ wsX0_afterEntry := by decide +kernel
  have i1 : ∀ w ∈ u_ws RX1 TX1 9, w ∈ wsX0_afterEntry := by decide +kernel
  refine v_aload_n 1 rfl dX0_afterEntry_0 rfl rfl ?_
  refine v_get (ci := 0) (C := RX0) (T := TX0) (N := 5) (v := .ref (ad 4)) 4 rfl 11 0 dX0_afterEntry_1 rfl (Nat.le_of_ble_eq_true rfl) i0 (by decide +kernel) rfl rfl ?_
  refine v_iload_n 5 rfl dX0_afterEntry_4 rfl rfl ?_
  refine v_callF (n := 1) (q0 := 4) (ci := 1) 8 rfl (c_hasEntryT t (by omega) (by omega)) gX0_afterEntry_X1_hasEntry rfl (by decide +kernel) rfl ⟨(Nat.le_of_ble_eq_true rfl), (Nat.le_of_ble_eq_true rfl)⟩ rfl (Nat.le_of_ble_eq_true rfl) rfl rfl rfl dX0_afterEntry_5 ⟨Nat.zero_le _, Nat.zero_le _⟩ rfl ?_
  refine v_st (st' := [.int (bI true)]) rfl ?_
  refine v_if_eqB (b := true) 23 11 rfl dX0_afterEntry_8 (by decide) (fun q => False.elim (by cases q)) (fun c8 => ?_)
  refine v_aload_n 12 rfl dX0_afterEntry_11 rfl rfl ?_
  refine v_get (ci := 0) (C := RX0) (T := TX0) (N := 5) (v := .ref (ad 4)) 15 rfl 11 0 dX0_afterEntry_12 rfl (Nat.le_of_ble_eq_true rfl) i0 (by decide +kernel) rfl rfl ?_
  refine v_getN (ci := 1) (C := RX1) (T := TX1) (N := 9) (v := .ref (ad 6)) 18 rfl 4 1 dX0_afterEntry_15 rfl (Nat.le_of_ble_eq_true rfl) i1 (by decide +kernel) rfl rfl ?_
  refine v_iload_n 19 rfl dX0_afterEntry_18 rfl rfl ?_
  refine v_iald (j := t) (v := nI n) 20 rfl 6 0 dX0_afterEntry_19 rfl rfl (by omega) (by decide) hnu ?_
  refine v_goto 24 dX0_afterEntry_20 (by decide) ?_
  refine v_istore_n (lv' := [(3, .int (nI n)), (0, .ref (ad 11)), (1, .int (nI t)), (2, .int (nI A))]) 25 rfl dX0_afterEntry_24 rfl (Nat.le_of_ble_eq_true rfl) rfl ?_
  refine v_iload_n 26 rfl dX0_afterEntry_25 rfl rfl ?_
  refine v_bipush (v := nI 40) 28 rfl dX0_afterEntry_26 (by decide) ?_
  refine v_callSN (n := 2) 31 rfl (c_isBelowT n 40 (by omega) (by omega)) gX0_afterEntry_X4_isBelow_n36 rfl (by decide +kernel) (by decide +kernel) (by decide +kernel) (by decide +kernel) rfl ⟨(Nat.le_of_ble_eq_true rfl), (Nat.le_of_ble_eq_true rfl)⟩ rfl (Nat.le_of_ble_eq_true rfl) dX0_afterEntry_28 ⟨Nat.zero_le _, Nat.zero_le _⟩ ?_
  refine v_st (st' := [.int (bI true)]) rfl ?_
  refine v_if_neB (b := true) 36 34 rfl dX0_afterEntry_31 (by decide) (fun c31 => ?_) (fun q => False.elim (by cases q))
  refine v_aload_n 37 rfl dX0_afterEntry_36 rfl rfl ?_
  refine v_get (ci := 0) (C := RX0) (T := TX0) (N := 5) (v := .ref (ad 4)) 40 rfl 11 0 dX0_afterEntry_37 rfl (Nat.le_of_ble_eq_true rfl) i0 (by decide +kernel) rfl rfl ?_
  refine v_getN (ci := 1) (C := RX1) (T := TX1) (N := 9) (v := .ref (ad 5)) 43 rfl 4 0 dX0_afterEntry_40 rfl (Nat.le_of_ble_eq_true rfl) i1 (by decide +kernel) rfl rfl ?_
  refine v_iload_n 44 rfl dX0_afterEntry_43 rfl rfl ?_
  refine v_iald (j := t) (v := nI 4) 45 rfl 5 0 dX0_afterEntry_44 rfl rfl (by omega) (by decide) hk ?_
  refine v_tabIn (a := 4) 128 dX0_afterEntry_45 (by omega) (by omega) (by omega) rfl (by decide) ?_
  refine v_aload_n 129 rfl dX0_afterEntry_128 rfl rfl ?_
  refine v_get (ci := 0) (C := RX0) (T := TX0) (N := 5) (v := .ref (ad 12)) 132 rfl 11 2 dX0_afterEntry_129 rfl (Nat.le_of_ble_eq_true rfl) i0 (by decide +kernel) rfl rfl ?_
  refine v_iload_n 133 rfl dX0_afterEntry_132 rfl rfl ?_
  refine v_iload_n 134 rfl dX0_afterEntry_133 rfl rfl ?_
  refine v_iast (j := n) (w' := wC ad cI cZ tg fn ki nu fi se ju op en sm ob (upd be n (nI A)) af pl rf rp rs ra rb rl) 135 rfl 12 0 dX0_afterEntry_134 rfl rfl (by omega) (by decide) rfl ?_
  refine v_iload_n 136 rfl dX0_afterEntry_135 rfl rfl ?_
  exact v_iret dX0_afterEntry_136 rfl rfl rfl

set_option maxRecDepth 100000 in
set_option maxHeartbeats 4000000 in
theorem c_aeOpen7 {D : va_G} {cI cZ cJ : ClassId} {l : Launch} {ad : Nat → Nat} {tg : Nat → Int32} {fn : Nat → Int32} {ki : Nat → Int32} {nu : Nat → Int32} {fi : Nat → Int32} {se : Nat → Int32} {ju : Nat → Int32} {op : Nat → Int32} {en : Nat} {sm : Nat} {ob : Nat} {be : Nat → Int32} {af : Nat → Int32} {pl : Int32} {rf : Int32} {rp : Int32} {rs : Nat} {ra : Nat} {rb : Int32} {rl : Nat} (t n A : Nat) (hte : t < en) (hen : en ≤ 120) (hnu : nu t = nI n) (hn : n < 40) (hA : A < 2 ^ 20) (hk : ki t = nI 7) : KM D (tyL cI cZ cJ) l yX0_afterEntry wsX0_afterEntry 3 70 [.ref (ad 11), .int (nI t), .int (nI A)] (wC ad cI cZ tg fn ki nu fi se ju op en sm ob be af pl rf rp rs ra rb rl) (some (.int (nI A))) (wC ad cI cZ tg fn ki nu fi se ju op en sm ob (upd be n (nI A)) af pl rf rp rs ra rb rl) := by
  refine KM.of (cc := cX0_afterEntry) (nL := 4) (ret := (some .int)) (by decide +kernel) rfl (Nat.le_of_ble_eq_true rfl) ?_
  have i0 : ∀ w ∈ u_ws RX0 TX0 5, w ∈ wsX0_afterEntry := by decide +kernel
  have i1 : ∀ w ∈ u_ws RX1 TX1 9, w ∈ wsX0_afterEntry := by decide +kernel
  refine v_aload_n 1 rfl dX0_afterEntry_0 rfl rfl ?_
  refine v_get (ci := 0) (C := RX0) (T := TX0) (N := 5) (v := .ref (ad 4)) 4 rfl 11 0 dX0_afterEntry_1 rfl (Nat.le_of_ble_eq_true rfl) i0 (by decide +kernel) rfl rfl ?_
  refine v_iload_n 5 rfl dX0_afterEntry_4 rfl rfl ?_
  refine v_callF (n := 1) (q0 := 4) (ci := 1) 8 rfl (c_hasEntryT t (by omega) (by omega)) gX0_afterEntry_X1_hasEntry rfl (by decide +kernel) rfl ⟨(Nat.le_of_ble_eq_true rfl), (Nat.le_of_ble_eq_true rfl)⟩ rfl (Nat.le_of_ble_eq_true rfl) rfl rfl rfl dX0_afterEntry_5 ⟨Nat.zero_le _, Nat.zero_le _⟩ rfl ?_
  refine v_st (st' := [.int (bI true)]) rfl ?_
  refine v_if_eqB (b := true) 23 11 rfl dX0_afterEntry_8 (by decide) (fun q => False.elim (by cases q)) (fun c8 => ?_)
  refine v_aload_n 12 rfl dX0_afterEntry_11 rfl rfl ?_
  refine v_get (ci := 0) (C := RX0) (T := TX0) (N := 5) (v := .ref (ad 4)) 15 rfl 11 0 dX0_afterEntry_12 rfl (Nat.le_of_ble_eq_true rfl) i0 (by decide +kernel) rfl rfl ?_
  refine v_getN (ci := 1) (C := RX1) (T := TX1) (N := 9) (v := .ref (ad 6)) 18 rfl 4 1 dX0_afterEntry_15 rfl (Nat.le_of_ble_eq_true rfl) i1 (by decide +kernel) rfl rfl ?_
  refine v_iload_n 19 rfl dX0_afterEntry_18 rfl rfl ?_
  refine v_iald (j := t) (v := nI n) 20 rfl 6 0 dX0_afterEntry_19 rfl rfl (by omega) (by decide) hnu ?_
  refine v_goto 24 dX0_afterEntry_20 (by decide) ?_
  refine v_istore_n (lv' := [(3, .int (nI n)), (0, .ref (ad 11)), (1, .int (nI t)), (2, .int (nI A))]) 25 rfl dX0_afterEntry_24 rfl (Nat.le_of_ble_eq_true rfl) rfl ?_
  refine v_iload_n 26 rfl dX0_afterEntry_25 rfl rfl ?_
  refine v_bipush (v := nI 40) 28 rfl dX0_afterEntry_26 (by decide) ?_
  refine v_callSN (n := 2) 31 rfl (c_isBelowT n 40 (by omega) (by omega)) gX0_afterEntry_X4_isBelow_n36 rfl (by decide +kernel) (by decide +kernel) (by decide +kernel) (by decide +kernel) rfl ⟨(Nat.le_of_ble_eq_true rfl), (Nat.le_of_ble_eq_true rfl)⟩ rfl (Nat.le_of_ble_eq_true rfl) dX0_afterEntry_28 ⟨Nat.zero_le _, Nat.zero_le _⟩ ?_
  refine v_st (st' := [.int (bI true)]) rfl ?_
  refine v_if_neB (b := true) 36 34 rfl dX0_afterEntry_31 (by decide) (fun c31 => ?_) (fun q => False.elim (by cases q))
  refine v_aload_n 37 rfl dX0_afterEntry_36 rfl rfl ?_
  refine v_get (ci := 0) (C := RX0) (T := TX0) (N := 5) (v := .ref (ad 4)) 40 rfl 11 0 dX0_afterEntry_37 rfl (Nat.le_of_ble_eq_true rfl) i0 (by decide +kernel) rfl rfl ?_
  refine v_getN (ci := 1) (C := RX1) (T := TX1) (N := 9) (v := .ref (ad 5)) 43 rfl 4 0 dX0_afterEntry_40 rfl (Nat.le_of_ble_eq_true rfl) i1 (by decide +kernel) rfl rfl ?_
  refine v_iload_n 44 rfl dX0_afterEntry_43 rfl rfl ?_
  refine v_iald (j := t) (v := nI 7) 45 rfl 5 0 dX0_afterEntry_44 rfl rfl (by omega) (by decide) hk ?_
  refine v_tabIn (a := 7) 128 dX0_afterEntry_45 (by omega) (by omega) (by omega) rfl (by decide) ?_
  refine v_aload_n 129 rfl dX0_afterEntry_128 rfl rfl ?_
  refine v_get (ci := 0) (C := RX0) (T := TX0) (N := 5) (v := .ref (ad 12)) 132 rfl 11 2 dX0_afterEntry_129 rfl (Nat.le_of_ble_eq_true rfl) i0 (by decide +kernel) rfl rfl ?_
  refine v_iload_n 133 rfl dX0_afterEntry_132 rfl rfl ?_
  refine v_iload_n 134 rfl dX0_afterEntry_133 rfl rfl ?_
  refine v_iast (j := n) (w' := wC ad cI cZ tg fn ki nu fi se ju op en sm ob (upd be n (nI A)) af pl rf rp rs ra rb rl) 135 rfl 12 0 dX0_afterEntry_134 rfl rfl (by omega) (by decide) rfl ?_
  refine v_iload_n 136 rfl dX0_afterEntry_135 rfl rfl ?_
  exact v_iret dX0_afterEntry_136 rfl rfl rfl

set_option maxRecDepth 100000 in
set_option maxHeartbeats 4000000 in
theorem c_aeSimple {D : va_G} {cI cZ cJ : ClassId} {l : Launch} {ad : Nat → Nat} {tg : Nat → Int32} {fn : Nat → Int32} {ki : Nat → Int32} {nu : Nat → Int32} {fi : Nat → Int32} {se : Nat → Int32} {ju : Nat → Int32} {op : Nat → Int32} {en : Nat} {sm : Nat} {ob : Nat} {be : Nat → Int32} {af : Nat → Int32} {pl : Int32} {rf : Int32} {rp : Int32} {rs : Nat} {ra : Nat} {rb : Int32} {rl : Nat} (t n A : Nat) (hte : t < en) (hen : en ≤ 120) (hnu : nu t = nI n) (hn : n < 40) (hA : A < 2 ^ 20) (tn : Nat → Nat) (fb : Nat → Bool) (d v x : Nat) (hk : ki t = nI d) (hd : d < 4) (hv : v < 4) (hx : x < 4) (hx3 : d = 0 → x < 3) (hob : ∀ v, v < 4 → hb A v ≤ 24) (hf : fi t = nI v) (hs : se t = nI x) (htg : ∀ i, i < 96 → tg i = oI (tn i) ∧ tn i ≤ 5) (hfn : ∀ o, o < 24 → fn o = bI (fb o)) : KM D (tyL cI cZ cJ) l yX0_afterEntry wsX0_afterEntry 3 70 [.ref (ad 11), .int (nI t), .int (nI A)] (wC ad cI cZ tg fn ki nu fi se ju op en sm ob be af pl rf rp rs ra rb rl) (some (.int (fI (sim tn fb d v x A).1 (sim tn fb d v x A).2))) (wC ad cI cZ tg fn ki nu fi se ju op en sm ob (upd be n (nI A)) af pl rf rp rs ra rb rl) := by
  refine KM.of (cc := cX0_afterEntry) (nL := 4) (ret := (some .int)) (by decide +kernel) rfl (Nat.le_of_ble_eq_true rfl) ?_
  have i0 : ∀ w ∈ u_ws RX0 TX0 5, w ∈ wsX0_afterEntry := by decide +kernel
  have i1 : ∀ w ∈ u_ws RX1 TX1 9, w ∈ wsX0_afterEntry := by decide +kernel
  refine v_aload_n 1 rfl dX0_afterEntry_0 rfl rfl ?_
  refine v_get (ci := 0) (C := RX0) (T := TX0) (N := 5) (v := .ref (ad 4)) 4 rfl 11 0 dX0_afterEntry_1 rfl (Nat.le_of_ble_eq_true rfl) i0 (by decide +kernel) rfl rfl ?_
  refine v_iload_n 5 rfl dX0_afterEntry_4 rfl rfl ?_
  refine v_callF (n := 1) (q0 := 4) (ci := 1) 8 rfl (c_hasEntryT t (by omega) (by omega)) gX0_afterEntry_X1_hasEntry rfl (by decide +kernel) rfl ⟨(Nat.le_of_ble_eq_true rfl), (Nat.le_of_ble_eq_true rfl)⟩ rfl (Nat.le_of_ble_eq_true rfl) rfl rfl rfl dX0_afterEntry_5 ⟨Nat.zero_le _, Nat.zero_le _⟩ rfl ?_
  refine v_st (st' := [.int (bI true)]) rfl ?_
  refine v_if_eqB (b := true) 23 11 rfl dX0_afterEntry_8 (by decide) (fun q => False.elim (by cases q)) (fun c8 => ?_)
  refine v_aload_n 12 rfl dX0_afterEntry_11 rfl rfl ?_
  refine v_get (ci := 0) (C := RX0) (T := TX0) (N := 5) (v := .ref (ad 4)) 15 rfl 11 0 dX0_afterEntry_12 rfl (Nat.le_of_ble_eq_true rfl) i0 (by decide +kernel) rfl rfl ?_
  refine v_getN (ci := 1) (C := RX1) (T := TX1) (N := 9) (v := .ref (ad 6)) 18 rfl 4 1 dX0_afterEntry_15 rfl (Nat.le_of_ble_eq_true rfl) i1 (by decide +kernel) rfl rfl ?_
  refine v_iload_n 19 rfl dX0_afterEntry_18 rfl rfl ?_
  refine v_iald (j := t) (v := nI n) 20 rfl 6 0 dX0_afterEntry_19 rfl rfl (by omega) (by decide) hnu ?_
  refine v_goto 24 dX0_afterEntry_20 (by decide) ?_
  refine v_istore_n (lv' := [(3, .int (nI n)), (0, .ref (ad 11)), (1, .int (nI t)), (2, .int (nI A))]) 25 rfl dX0_afterEntry_24 rfl (Nat.le_of_ble_eq_true rfl) rfl ?_
  refine v_iload_n 26 rfl dX0_afterEntry_25 rfl rfl ?_
  refine v_bipush (v := nI 40) 28 rfl dX0_afterEntry_26 (by decide) ?_
  refine v_callSN (n := 2) 31 rfl (c_isBelowT n 40 (by omega) (by omega)) gX0_afterEntry_X4_isBelow_n36 rfl (by decide +kernel) (by decide +kernel) (by decide +kernel) (by decide +kernel) rfl ⟨(Nat.le_of_ble_eq_true rfl), (Nat.le_of_ble_eq_true rfl)⟩ rfl (Nat.le_of_ble_eq_true rfl) dX0_afterEntry_28 ⟨Nat.zero_le _, Nat.zero_le _⟩ ?_
  refine v_st (st' := [.int (bI true)]) rfl ?_
  refine v_if_neB (b := true) 36 34 rfl dX0_afterEntry_31 (by decide) (fun c31 => ?_) (fun q => False.elim (by cases q))
  refine v_aload_n 37 rfl dX0_afterEntry_36 rfl rfl ?_
  refine v_get (ci := 0) (C := RX0) (T := TX0) (N := 5) (v := .ref (ad 4)) 40 rfl 11 0 dX0_afterEntry_37 rfl (Nat.le_of_ble_eq_true rfl) i0 (by decide +kernel) rfl rfl ?_
  refine v_getN (ci := 1) (C := RX1) (T := TX1) (N := 9) (v := .ref (ad 5)) 43 rfl 4 0 dX0_afterEntry_40 rfl (Nat.le_of_ble_eq_true rfl) i1 (by decide +kernel) rfl rfl ?_
  refine v_iload_n 44 rfl dX0_afterEntry_43 rfl rfl ?_
  refine v_iald (j := t) (v := nI d) 45 rfl 5 0 dX0_afterEntry_44 rfl rfl (by omega) (by decide) hk ?_
  refine v_tabOut (a := d) 137 dX0_afterEntry_45 (by omega) (by omega) (by decide) ?_
  refine v_aload_n 138 rfl dX0_afterEntry_137 rfl rfl ?_
  refine v_get (ci := 0) (C := RX0) (T := TX0) (N := 5) (v := .ref (ad 12)) 141 rfl 11 2 dX0_afterEntry_138 rfl (Nat.le_of_ble_eq_true rfl) i0 (by decide +kernel) rfl rfl ?_
  refine v_iload_n 142 rfl dX0_afterEntry_141 rfl rfl ?_
  refine v_iload_n 143 rfl dX0_afterEntry_142 rfl rfl ?_
  refine v_iast (j := n) (w' := wC ad cI cZ tg fn ki nu fi se ju op en sm ob (upd be n (nI A)) af pl rf rp rs ra rb rl) 144 rfl 12 0 dX0_afterEntry_143 rfl rfl (by omega) (by decide) rfl ?_
  refine v_aload_n 145 rfl dX0_afterEntry_144 rfl rfl ?_
  refine v_get (ci := 0) (C := RX0) (T := TX0) (N := 5) (v := .ref (ad 4)) 148 rfl 11 0 dX0_afterEntry_145 rfl (Nat.le_of_ble_eq_true rfl) i0 (by decide +kernel) rfl rfl ?_
  refine v_iload_n 149 rfl dX0_afterEntry_148 rfl rfl ?_
  refine v_iload_n 150 rfl dX0_afterEntry_149 rfl rfl ?_
  refine v_aload_n 151 rfl dX0_afterEntry_150 rfl rfl ?_
  refine v_get (ci := 0) (C := RX0) (T := TX0) (N := 5) (v := .ref (ad 1)) 154 rfl 11 1 dX0_afterEntry_151 rfl (Nat.le_of_ble_eq_true rfl) i0 (by decide +kernel) rfl rfl ?_
  refine v_callF (n := 3) (q0 := 4) (ci := 1) 157 rfl (c_afterSimple tn fb t d v x A hte hen hk hd hv hx hx3 hA hob hf hs htg hfn) gX0_afterEntry_X1_afterSimple rfl (by decide +kernel) rfl ⟨(Nat.le_of_ble_eq_true rfl), (Nat.le_of_ble_eq_true rfl)⟩ rfl (Nat.le_of_ble_eq_true rfl) rfl rfl rfl dX0_afterEntry_154 ⟨Nat.zero_le _, Nat.zero_le _⟩ rfl ?_
  refine v_st (st' := [.int (fI (sim tn fb d v x A).1 (sim tn fb d v x A).2)]) rfl ?_
  exact v_iret dX0_afterEntry_157 rfl rfl rfl

/-- what an entry needs, for its checking -/
def Saf (ki nu fi se : Nat → Int32) (t A : Nat) (be af : Nat → Int32) : Prop := ∃ d n v x : Nat, ki t = nI d ∧ d < 9 ∧ nu t = nI n ∧ n < 40 ∧ fi t = nI v ∧ v < 4 ∧ se t = nI x ∧ x < 4 ∧ (d = 0 → x < 3) ∧ A < 2 ^ 20 ∧ (∀ v, v < 4 → hb A v ≤ 24) ∧ (d = 5 → ∃ B : Nat, B < 2 ^ 20 ∧ be n = nI B) ∧ (d = 6 → ∃ B : Nat, B < 2 ^ 20 ∧ af n = nI B) ∧ (d = 8 → ∃ B : Nat, B < 2 ^ 20 ∧ be n = nI B)
def cstA (tn : Nat → Nat) (fb : Nat → Bool) (ki nu fi se : Nat → Int32) (t A : Nat) (be af : Nat → Int32) : Nat × Nat × (Nat → Int32) × (Nat → Int32) := cst tn fb (tN (ki t)) (tN (nu t)) (tN (fi t)) (tN (se t)) A be af
theorem c_afterEntry {D : va_G} {cI cZ cJ : ClassId} {l : Launch} {ad : Nat → Nat} {tg : Nat → Int32} {fn : Nat → Int32} {ki : Nat → Int32} {nu : Nat → Int32} {fi : Nat → Int32} {se : Nat → Int32} {ju : Nat → Int32} {op : Nat → Int32} {en : Nat} {sm : Nat} {ob : Nat} {be : Nat → Int32} {af : Nat → Int32} {pl : Int32} {rf : Int32} {rp : Int32} {rs : Nat} {ra : Nat} {rb : Int32} {rl : Nat} (tn : Nat → Nat) (fb : Nat → Bool) (t A : Nat) (hte : t < en) (hen : en ≤ 120) (hsaf : Saf ki nu fi se t A be af) (htg : ∀ i, i < 96 → tg i = oI (tn i) ∧ tn i ≤ 5) (hfn : ∀ o, o < 24 → fn o = bI (fb o)) : KM D (tyL cI cZ cJ) l yX0_afterEntry wsX0_afterEntry 3 70 [.ref (ad 11), .int (nI t), .int (nI A)] (wC ad cI cZ tg fn ki nu fi se ju op en sm ob be af pl rf rp rs ra rb rl) (some (.int (fI (cstA tn fb ki nu fi se t A be af).1 (cstA tn fb ki nu fi se t A be af).2.1))) (wC ad cI cZ tg fn ki nu fi se ju op en sm ob ((cstA tn fb ki nu fi se t A be af).2.2.1) ((cstA tn fb ki nu fi se t A be af).2.2.2) pl rf rp rs ra rb rl) := by
  obtain ⟨d, n, v, x, hk, hd, hnu, hn, hf, hv, hs, hx, hx3, hA, hob, h5, h6, h8⟩ := hsaf
  have e0 : cstA tn fb ki nu fi se t A be af = cst tn fb d n v x A be af := by simp only [cstA]; rw [hk, hnu, hf, hs, tN_nI (by omega), tN_nI (by omega), tN_nI (by omega), tN_nI (by omega)]
  rw [e0]
  by_cases d5 : d = 5
  · subst d5
    obtain ⟨B, hB2, hB⟩ := h5 rfl
    have e : cst tn fb 5 n v x A be af = (0, B, be, upd af n (nI A)) := by simp only [cst, if_pos]; rw [hB, tN_nI (by omega)]
    rw [e]
    exact c_aeElse t n A hte hen hnu hn hA B hk hB
  by_cases d6 : d = 6
  · subst d6
    obtain ⟨B, hB2, hB⟩ := h6 rfl
    have e : cst tn fb 6 n v x A be af = (if A = B then 0 else 5, A, be, af) := by simp [cst]; rw [hB, tN_nI (by omega)]
    rw [e]
    exact c_aeEndIf t n A hte hen hnu hn hA B hk hB hB2
  by_cases d8 : d = 8
  · subst d8
    obtain ⟨B, hB2, hB⟩ := h8 rfl
    have e : cst tn fb 8 n v x A be af = (if A = B then 0 else 6, A, be, af) := by simp [cst]; rw [hB, tN_nI (by omega)]
    rw [e]
    exact c_aeEndWhile t n A hte hen hnu hn hA B hk hB hB2
  by_cases d4 : d = 4
  · subst d4
    have e : cst tn fb 4 n v x A be af = (0, A, upd be n (nI A), af) := by simp [cst]
    rw [e]
    exact c_aeOpen4 t n A hte hen hnu hn hA hk
  by_cases d7 : d = 7
  · subst d7
    have e : cst tn fb 7 n v x A be af = (0, A, upd be n (nI A), af) := by simp [cst]
    rw [e]
    exact c_aeOpen7 t n A hte hen hnu hn hA hk
  have e : cst tn fb d n v x A be af = ((sim tn fb d v x A).1, (sim tn fb d v x A).2, upd be n (nI A), af) := by simp [cst, d5, d6, d8, d4, d7]
  rw [e]
  exact c_aeSimple t n A hte hen hnu hn hA tn fb d v x hk (by omega) hv hx hx3 hob hf hs htg hfn
end
section
/-- the checking's loop: from entry t on, of m -/
def crun (tn : Nat → Nat) (fb : Nat → Bool) (ki nu fi se : Nat → Int32) (sm : Nat) : Nat → Nat → Nat → (Nat → Int32) → (Nat → Int32) → Nat × Int32 × (Nat → Int32) × (Nat → Int32)
  | 0, _, A, be, af => (leav fb A 4 0, if leav fb A 4 0 = 0 then -1 else nI sm, be, af)
  | m + 1, t, A, be, af => if (cstA tn fb ki nu fi se t A be af).1 = 0 then crun tn fb ki nu fi se sm m (t + 1) (cstA tn fb ki nu fi se t A be af).2.1 (cstA tn fb ki nu fi se t A be af).2.2.1 (cstA tn fb ki nu fi se t A be af).2.2.2 else ((cstA tn fb ki nu fi se t A be af).1, nu t, (cstA tn fb ki nu fi se t A be af).2.2.1, (cstA tn fb ki nu fi se t A be af).2.2.2)
theorem sim_lt (tn : Nat → Nat) (fb : Nat → Bool) (d v x A : Nat) : (sim tn fb d v x A).1 < 9 := by unfold sim; split <;> (try split) <;> (try split) <;> (try split) <;> (try split) <;> simp
theorem cstA_lt (tn : Nat → Nat) (fb : Nat → Bool) (ki nu fi se : Nat → Int32) (t A : Nat) (be af : Nat → Int32) : (cstA tn fb ki nu fi se t A be af).1 < 9 := by
  unfold cstA cst
  have := sim_lt tn fb (tN (ki t)) (tN (fi t)) (tN (se t)) A
  split
  · simp
  split
  · dsimp only; split <;> omega
  split
  · dsimp only; split <;> omega
  split
  · simp
  exact this
theorem leav_v (fb : Nat → Bool) (A : Nat) : ∀ m v, leav fb A m v = 0 ∨ leav fb A m v = 7 := by
  intro m
  induction m with
  | zero => intro v; exact Or.inl rfl
  | succ m ih => intro v; unfold leav; split; exact Or.inr rfl; exact ih _
theorem neg_nle {f : Nat} (h : f < 9) (h0 : f ≠ 0) : ¬ (0 : Int32) ≤ -nI f := Int32.not_le.mpr (neg_lt f h h0)

set_option maxRecDepth 100000 in
set_option maxHeartbeats 4000000 in
theorem c_checkProgram {D : va_G} {cI cZ cJ : ClassId} {l : Launch} {ad : Nat → Nat} {tg : Nat → Int32} {fn : Nat → Int32} {ki : Nat → Int32} {nu : Nat → Int32} {fi : Nat → Int32} {se : Nat → Int32} {ju : Nat → Int32} {op : Nat → Int32} {en : Nat} {sm : Nat} {ob : Nat} {be : Nat → Int32} {af : Nat → Int32} {pl : Int32} {rf : Int32} {rp : Int32} {rs : Nat} {ra : Nat} {rb : Int32} {rl : Nat} (tn : Nat → Nat) (fb : Nat → Bool) (J : Nat → Nat → (Nat → Int32) → (Nat → Int32) → Prop) (htg : ∀ i, i < 96 → tg i = oI (tn i) ∧ tn i ≤ 5) (hfn : ∀ o, o < 24 → fn o = bI (fb o)) (hen : en ≤ 120) (hJ : ∀ t A be af, t < en → J t A be af → Saf ki nu fi se t A be af ∧ ((cstA tn fb ki nu fi se t A be af).1 = 0 → J (t + 1) (cstA tn fb ki nu fi se t A be af).2.1 (cstA tn fb ki nu fi se t A be af).2.2.1 (cstA tn fb ki nu fi se t A be af).2.2.2)) (hJe : ∀ t A be af, J t A be af → A < 2 ^ 20 ∧ ∀ v, v < 4 → hb A v ≤ 24) (hob : ob = 0) (hJ0 : J 0 0 (fillF be 40 (-1)) af) : KM D (tyL cI cZ cJ) l yX0_checkProgram wsX0_checkProgram 4 93 [.ref (ad 11)] (wC ad cI cZ tg fn ki nu fi se ju op en sm ob be af pl rf rp rs ra rb rl) (some (.int (nI (crun tn fb ki nu fi se sm en 0 0 (fillF be 40 (-1)) af).1))) (wC ad cI cZ tg fn ki nu fi se ju op en sm ob ((crun tn fb ki nu fi se sm en 0 0 (fillF be 40 (-1)) af).2.2.1) ((crun tn fb ki nu fi se sm en 0 0 (fillF be 40 (-1)) af).2.2.2) ((crun tn fb ki nu fi se sm en 0 0 (fillF be 40 (-1)) af).2.1) rf rp rs ra rb rl) := by
  refine KM.of (cc := cX0_checkProgram) (nL := 4) (ret := (some .int)) (by decide +kernel) rfl (Nat.le_of_ble_eq_true rfl) ?_
  have i0 : ∀ w ∈ u_ws RX0 TX0 5, w ∈ wsX0_checkProgram := by decide +kernel
  have i1 : ∀ w ∈ u_ws RX1 TX1 9, w ∈ wsX0_checkProgram := by decide +kernel
  have hop : decide (0 < ob) = false := by simp [hob]
  have loop : ∀ (R : Nat × Int32 × (Nat → Int32) × (Nat → Int32)) (m t A : Nat) (be1 af1 : Nat → Int32), t + m = en → J t A be1 af1 → crun tn fb ki nu fi se sm m t A be1 af1 = R → V (xM D (tyL cI cZ cJ) l 4 93 (wC ad cI cZ tg fn ki nu fi se ju op en sm ob be af pl rf rp rs ra rb rl) (some (.int (nI R.1))) (wC ad cI cZ tg fn ki nu fi se ju op en sm ob R.2.2.1 R.2.2.2 R.2.1 rf rp rs ra rb rl)) (cX0_checkProgram, wsX0_checkProgram, yX0_checkProgram.cls, 4, (some .int), yX0_checkProgram.name) 0 0 (wC ad cI cZ tg fn ki nu fi se ju op en sm ob be1 af1 (nI sm) rf rp rs ra rb rl) 36 [(2, .int (nI t)), (1, .int (nI A)), (0, .ref (ad 11))] [] := by
    intro R m
    induction m with
    | zero =>
      intro t A be1 af1 hm hJt hres
      obtain ⟨hEA, hEo⟩ := hJe t A be1 af1 hJt
      refine v_iload_n 37 rfl dX0_checkProgram_36 rfl rfl ?_
      refine v_aload_n 38 rfl dX0_checkProgram_37 rfl rfl ?_
      refine v_get (ci := 0) (C := RX0) (T := TX0) (N := 5) (v := .ref (ad 4)) 41 rfl 11 0 dX0_checkProgram_38 rfl (Nat.le_of_ble_eq_true rfl) i0 (by decide +kernel) rfl rfl ?_
      refine v_getN (ci := 1) (C := RX1) (T := TX1) (N := 9) (v := .int (nI en)) 44 rfl 4 6 dX0_checkProgram_41 rfl (Nat.le_of_ble_eq_true rfl) i1 (by decide +kernel) rfl rfl ?_
      refine v_icmp_geN (a := t) (b := en) 82 47 rfl dX0_checkProgram_44 (by decide) (by omega) (by omega) (fun c44 => ?_) (fun q => False.elim (by omega))
      refine v_aload_n 83 rfl dX0_checkProgram_82 rfl rfl ?_
      refine v_get (ci := 0) (C := RX0) (T := TX0) (N := 5) (v := .ref (ad 1)) 86 rfl 11 1 dX0_checkProgram_83 rfl (Nat.le_of_ble_eq_true rfl) i0 (by decide +kernel) rfl rfl ?_
      refine v_iload_n 87 rfl dX0_checkProgram_86 rfl rfl ?_
      refine v_callF (n := 1) (q0 := 1) (ci := 2) 90 rfl (c_faultOfLeaving fb A hEA hfn hEo) gX0_checkProgram_X2_faultOfLeaving rfl (by decide +kernel) rfl ⟨(Nat.le_of_ble_eq_true rfl), (Nat.le_of_ble_eq_true rfl)⟩ rfl (Nat.le_of_ble_eq_true rfl) rfl rfl rfl dX0_checkProgram_87 ⟨Nat.zero_le _, Nat.zero_le _⟩ rfl ?_
      refine v_st (st' := [.int (nI (leav fb A 4 0))]) rfl ?_
      refine v_istore_n (lv' := [(2, .int (nI (leav fb A 4 0))), (1, .int (nI A)), (0, .ref (ad 11))]) 91 rfl dX0_checkProgram_90 rfl (Nat.le_of_ble_eq_true rfl) rfl ?_
      refine v_iload_n 92 rfl dX0_checkProgram_91 rfl rfl ?_
      refine v_if_neN (a := leav fb A 4 0) 100 95 rfl dX0_checkProgram_92 (by decide) (by have := leav_v fb A 4 0; omega) (fun c92 => ?_) (fun c92 => ?_)
      · refine v_iload_n 101 rfl dX0_checkProgram_100 rfl rfl ?_
        exact v_iret dX0_checkProgram_101 rfl (by rw [← hres]; rfl) (by rw [← hres]; simp [crun, *]; try omega)
      · refine v_aload_n 96 rfl dX0_checkProgram_95 rfl rfl ?_
        refine v_iconst (v := -1) 97 rfl dX0_checkProgram_96 (by decide) ?_
        refine v_put (ci := 0) (C := RX0) (T := TX0) (ty0 := tyX0) (N := 5) (ty := .int) (w' := wC ad cI cZ tg fn ki nu fi se ju op en sm ob be1 af1 (-1) rf rp rs ra rb rl) 100 rfl 11 4 dX0_checkProgram_97 rfl (Nat.le_of_ble_eq_true rfl) i0 tyX0_ok nmX0 (by decide +kernel) rfl (by decide +kernel) rfl rfl rfl (Nat.le_of_ble_eq_true rfl) rfl ?_
        refine v_iload_n 101 rfl dX0_checkProgram_100 rfl rfl ?_
        exact v_iret dX0_checkProgram_101 rfl (by rw [← hres]; rfl) (by rw [← hres]; simp [crun, *]; try omega)
    | succ m ih =>
      intro t A be1 af1 hm hJt hres
      refine v_iload_n 37 rfl dX0_checkProgram_36 rfl rfl ?_
      refine v_aload_n 38 rfl dX0_checkProgram_37 rfl rfl ?_
      refine v_get (ci := 0) (C := RX0) (T := TX0) (N := 5) (v := .ref (ad 4)) 41 rfl 11 0 dX0_checkProgram_38 rfl (Nat.le_of_ble_eq_true rfl) i0 (by decide +kernel) rfl rfl ?_
      refine v_getN (ci := 1) (C := RX1) (T := TX1) (N := 9) (v := .int (nI en)) 44 rfl 4 6 dX0_checkProgram_41 rfl (Nat.le_of_ble_eq_true rfl) i1 (by decide +kernel) rfl rfl ?_
      refine v_icmp_geN (a := t) (b := en) 82 47 rfl dX0_checkProgram_44 (by decide) (by omega) (by omega) (fun q => False.elim (by omega)) (fun c44 => ?_)
      refine v_aload_n 48 rfl dX0_checkProgram_47 rfl rfl ?_
      refine v_iload_n 49 rfl dX0_checkProgram_48 rfl rfl ?_
      refine v_iload_n 50 rfl dX0_checkProgram_49 rfl rfl ?_
      refine v_callF (n := 2) (q0 := 11) (ci := 0) 53 rfl (c_afterEntry tn fb t A (by omega) hen (hJ t A be1 af1 (by omega) hJt).1 htg hfn) gX0_checkProgram_X0_afterEntry rfl (by decide +kernel) rfl ⟨(Nat.le_of_ble_eq_true rfl), (Nat.le_of_ble_eq_true rfl)⟩ rfl (Nat.le_of_ble_eq_true rfl) rfl rfl rfl dX0_checkProgram_50 ⟨Nat.zero_le _, Nat.zero_le _⟩ rfl ?_
      refine v_st (st' := [.int (fI (cstA tn fb ki nu fi se t A be1 af1).1 (cstA tn fb ki nu fi se t A be1 af1).2.1)]) rfl ?_
      by_cases h0 : (cstA tn fb ki nu fi se t A be1 af1).1 = 0
      · refine v_top (v' := nI (cstA tn fb ki nu fi se t A be1 af1).2.1) (by rw [h0]; rfl) ?_
        refine v_istore_n (lv' := [(3, .int (nI ((cstA tn fb ki nu fi se t A be1 af1).2.1))), (2, .int (nI t)), (1, .int (nI A)), (0, .ref (ad 11))]) 54 rfl dX0_checkProgram_53 rfl (Nat.le_of_ble_eq_true rfl) rfl ?_
        refine v_iload_n 55 rfl dX0_checkProgram_54 rfl rfl ?_
        refine v_if_geN (a := (cstA tn fb ki nu fi se t A be1 af1).2.1) 74 58 rfl dX0_checkProgram_55 (by decide) (by have := (hJe _ _ _ _ ((hJ t A be1 af1 (by omega) hJt).2 h0)).1; omega) ?_
        refine v_iload_n 75 rfl dX0_checkProgram_74 rfl rfl ?_
        refine v_istore_n (lv' := [(1, .int (nI ((cstA tn fb ki nu fi se t A be1 af1).2.1))), (3, .int (nI ((cstA tn fb ki nu fi se t A be1 af1).2.1))), (2, .int (nI t)), (0, .ref (ad 11))]) 76 rfl dX0_checkProgram_75 rfl (Nat.le_of_ble_eq_true rfl) rfl ?_
        refine v_iinc (v := nI (t + 1)) (lv' := [(2, .int (nI (t + 1))), (1, .int (nI ((cstA tn fb ki nu fi se t A be1 af1).2.1))), (3, .int (nI ((cstA tn fb ki nu fi se t A be1 af1).2.1))), (0, .ref (ad 11))]) 79 rfl dX0_checkProgram_76 2 rfl (nI_add _ _) (Nat.le_of_ble_eq_true rfl) rfl ?_
        refine v_goto 36 dX0_checkProgram_79 (by decide) ?_
        refine v_lv [0, 1, 3] rfl ?_
        exact ih _ _ _ _ (by omega) ((hJ t A be1 af1 (by omega) hJt).2 h0) (by rw [← hres]; simp [crun, h0])
      · refine v_top (v' := -nI (cstA tn fb ki nu fi se t A be1 af1).1) (fI_s h0 _) ?_
        refine v_istore_n (lv' := [(3, .int (-nI (cstA tn fb ki nu fi se t A be1 af1).1)), (2, .int (nI t)), (1, .int (nI A)), (0, .ref (ad 11))]) 54 rfl dX0_checkProgram_53 rfl (Nat.le_of_ble_eq_true rfl) rfl ?_
        refine v_iload_n 55 rfl dX0_checkProgram_54 rfl rfl ?_
        refine v_if_ge 74 58 rfl dX0_checkProgram_55 (by decide) (fun q => absurd q (neg_nle (cstA_lt _ _ _ _ _ _ _ _ _ _) h0)) (fun c55 => ?_)
        refine v_aload_n 59 rfl dX0_checkProgram_58 rfl rfl ?_
        refine v_aload_n 60 rfl dX0_checkProgram_59 rfl rfl ?_
        refine v_get (ci := 0) (C := RX0) (T := TX0) (N := 5) (v := .ref (ad 4)) 63 rfl 11 0 dX0_checkProgram_60 rfl (Nat.le_of_ble_eq_true rfl) i0 (by decide +kernel) rfl rfl ?_
        refine v_getN (ci := 1) (C := RX1) (T := TX1) (N := 9) (v := .ref (ad 6)) 66 rfl 4 1 dX0_checkProgram_63 rfl (Nat.le_of_ble_eq_true rfl) i1 (by decide +kernel) rfl rfl ?_
        refine v_iload_n 67 rfl dX0_checkProgram_66 rfl rfl ?_
        refine v_iald (j := t) (v := nu t) 68 rfl 6 0 dX0_checkProgram_67 rfl rfl (by omega) (by decide) rfl ?_
        refine v_put (ci := 0) (C := RX0) (T := TX0) (ty0 := tyX0) (N := 5) (ty := .int) (w' := wC ad cI cZ tg fn ki nu fi se ju op en sm ob ((cstA tn fb ki nu fi se t A be1 af1).2.2.1) ((cstA tn fb ki nu fi se t A be1 af1).2.2.2) (nu t) rf rp rs ra rb rl) 71 rfl 11 4 dX0_checkProgram_68 rfl (Nat.le_of_ble_eq_true rfl) i0 tyX0_ok nmX0 (by decide +kernel) rfl (by decide +kernel) rfl rfl rfl (Nat.le_of_ble_eq_true rfl) rfl ?_
        refine v_iload_n 72 rfl dX0_checkProgram_71 rfl rfl ?_
        refine v_ineg 73 rfl dX0_checkProgram_72 ?_
        refine v_top (v' := nI ((cstA tn fb ki nu fi se t A be1 af1).1)) (neg_neg9 _ (cstA_lt _ _ _ _ _ _ _ _ _ _)) ?_
        exact v_iret dX0_checkProgram_73 rfl (by rw [← hres]; simp [crun, h0]) (by rw [← hres]; simp [crun, h0])
  refine v_aload_n 1 rfl dX0_checkProgram_0 rfl rfl ?_
  refine v_get (ci := 0) (C := RX0) (T := TX0) (N := 5) (v := .ref (ad 12)) 4 rfl 11 2 dX0_checkProgram_1 rfl (Nat.le_of_ble_eq_true rfl) i0 (by decide +kernel) rfl rfl ?_
  refine v_iconst (v := -1) 5 rfl dX0_checkProgram_4 (by decide) ?_
  refine v_callSF (n := 2) 8 rfl (c_fill (wC ad cI cZ tg fn ki nu fi se ju op en sm ob be af pl rf rp rs ra rb rl) 12 (ad 12) 40 be (-1) rfl (by decide)) gX0_checkProgram_J7_fill_53178 rfl (by decide +kernel) rfl ⟨(Nat.le_of_ble_eq_true rfl), (Nat.le_of_ble_eq_true rfl)⟩ rfl (Nat.le_of_ble_eq_true rfl) dX0_checkProgram_5 ⟨Nat.zero_le _, Nat.zero_le _⟩ rfl ?_
  refine v_w (w' := wC ad cI cZ tg fn ki nu fi se ju op en sm ob (fillF be 40 (-1)) af pl rf rp rs ra rb rl) rfl ?_
  refine v_st (st' := []) rfl ?_
  refine v_aload_n 9 rfl dX0_checkProgram_8 rfl rfl ?_
  refine v_aload_n 10 rfl dX0_checkProgram_9 rfl rfl ?_
  refine v_get (ci := 0) (C := RX0) (T := TX0) (N := 5) (v := .ref (ad 4)) 13 rfl 11 0 dX0_checkProgram_10 rfl (Nat.le_of_ble_eq_true rfl) i0 (by decide +kernel) rfl rfl ?_
  refine v_getN (ci := 1) (C := RX1) (T := TX1) (N := 9) (v := .int (nI sm)) 16 rfl 4 7 dX0_checkProgram_13 rfl (Nat.le_of_ble_eq_true rfl) i1 (by decide +kernel) rfl rfl ?_
  refine v_put (ci := 0) (C := RX0) (T := TX0) (ty0 := tyX0) (N := 5) (ty := .int) (w' := wC ad cI cZ tg fn ki nu fi se ju op en sm ob (fillF be 40 (-1)) af (nI sm) rf rp rs ra rb rl) 19 rfl 11 4 dX0_checkProgram_16 rfl (Nat.le_of_ble_eq_true rfl) i0 tyX0_ok nmX0 (by decide +kernel) rfl (by decide +kernel) rfl rfl rfl (Nat.le_of_ble_eq_true rfl) rfl ?_
  refine v_aload_n 20 rfl dX0_checkProgram_19 rfl rfl ?_
  refine v_get (ci := 0) (C := RX0) (T := TX0) (N := 5) (v := .ref (ad 4)) 23 rfl 11 0 dX0_checkProgram_20 rfl (Nat.le_of_ble_eq_true rfl) i0 (by decide +kernel) rfl rfl ?_
  refine v_callF (n := 0) (q0 := 4) (ci := 1) 26 rfl (c_hasOpenBlocks (by omega)) gX0_checkProgram_X1_hasOpenBlocks rfl (by decide +kernel) rfl ⟨(Nat.le_of_ble_eq_true rfl), (Nat.le_of_ble_eq_true rfl)⟩ rfl (Nat.le_of_ble_eq_true rfl) rfl rfl rfl dX0_checkProgram_23 ⟨Nat.zero_le _, Nat.zero_le _⟩ rfl ?_
  refine v_st (st' := [.int (bI (decide (0 < ob)))]) rfl ?_
  refine v_if_eqB (b := decide (0 < ob)) 32 29 rfl dX0_checkProgram_26 (by decide) (fun c26 => ?_) (fun q => False.elim (by rw [hop] at q; cases q))
  refine v_iconst (v := nI 0) 33 rfl dX0_checkProgram_32 (by decide) ?_
  refine v_istore_n (lv' := [(1, .int (nI 0)), (0, .ref (ad 11))]) 34 rfl dX0_checkProgram_33 rfl (Nat.le_of_ble_eq_true rfl) rfl ?_
  refine v_iconst (v := nI 0) 35 rfl dX0_checkProgram_34 (by decide) ?_
  refine v_istore_n (lv' := [(2, .int (nI 0)), (1, .int (nI 0)), (0, .ref (ad 11))]) 36 rfl dX0_checkProgram_35 rfl (Nat.le_of_ble_eq_true rfl) rfl ?_
  refine v_lv [0, 1, 2] rfl ?_
  exact loop _ en 0 0 _ _ (by omega) hJ0 rfl

set_option maxRecDepth 100000 in
set_option maxHeartbeats 4000000 in
theorem c_checkProgram8 {D : va_G} {cI cZ cJ : ClassId} {l : Launch} {ad : Nat → Nat} {tg : Nat → Int32} {fn : Nat → Int32} {ki : Nat → Int32} {nu : Nat → Int32} {fi : Nat → Int32} {se : Nat → Int32} {ju : Nat → Int32} {op : Nat → Int32} {en : Nat} {sm : Nat} {ob : Nat} {be : Nat → Int32} {af : Nat → Int32} {pl : Int32} {rf : Int32} {rp : Int32} {rs : Nat} {ra : Nat} {rb : Int32} {rl : Nat} (hob : 0 < ob) (ho : ob ≤ 6) : KM D (tyL cI cZ cJ) l yX0_checkProgram wsX0_checkProgram 1 23 [.ref (ad 11)] (wC ad cI cZ tg fn ki nu fi se ju op en sm ob be af pl rf rp rs ra rb rl) (some (.int (nI 8))) (wC ad cI cZ tg fn ki nu fi se ju op en sm ob (fillF be 40 (-1)) af (nI sm) rf rp rs ra rb rl) := by
  refine KM.of (cc := cX0_checkProgram) (nL := 4) (ret := (some .int)) (by decide +kernel) rfl (Nat.le_of_ble_eq_true rfl) ?_
  have i0 : ∀ w ∈ u_ws RX0 TX0 5, w ∈ wsX0_checkProgram := by decide +kernel
  have i1 : ∀ w ∈ u_ws RX1 TX1 9, w ∈ wsX0_checkProgram := by decide +kernel
  refine v_aload_n 1 rfl dX0_checkProgram_0 rfl rfl ?_
  refine v_get (ci := 0) (C := RX0) (T := TX0) (N := 5) (v := .ref (ad 12)) 4 rfl 11 2 dX0_checkProgram_1 rfl (Nat.le_of_ble_eq_true rfl) i0 (by decide +kernel) rfl rfl ?_
  refine v_iconst (v := -1) 5 rfl dX0_checkProgram_4 (by decide) ?_
  refine v_callSF (n := 2) 8 rfl (c_fill (wC ad cI cZ tg fn ki nu fi se ju op en sm ob be af pl rf rp rs ra rb rl) 12 (ad 12) 40 be (-1) rfl (by decide)) gX0_checkProgram_J7_fill_53178 rfl (by decide +kernel) rfl ⟨(Nat.le_of_ble_eq_true rfl), (Nat.le_of_ble_eq_true rfl)⟩ rfl (Nat.le_of_ble_eq_true rfl) dX0_checkProgram_5 ⟨Nat.zero_le _, Nat.zero_le _⟩ rfl ?_
  refine v_w (w' := wC ad cI cZ tg fn ki nu fi se ju op en sm ob (fillF be 40 (-1)) af pl rf rp rs ra rb rl) rfl ?_
  refine v_st (st' := []) rfl ?_
  refine v_aload_n 9 rfl dX0_checkProgram_8 rfl rfl ?_
  refine v_aload_n 10 rfl dX0_checkProgram_9 rfl rfl ?_
  refine v_get (ci := 0) (C := RX0) (T := TX0) (N := 5) (v := .ref (ad 4)) 13 rfl 11 0 dX0_checkProgram_10 rfl (Nat.le_of_ble_eq_true rfl) i0 (by decide +kernel) rfl rfl ?_
  refine v_getN (ci := 1) (C := RX1) (T := TX1) (N := 9) (v := .int (nI sm)) 16 rfl 4 7 dX0_checkProgram_13 rfl (Nat.le_of_ble_eq_true rfl) i1 (by decide +kernel) rfl rfl ?_
  refine v_put (ci := 0) (C := RX0) (T := TX0) (ty0 := tyX0) (N := 5) (ty := .int) (w' := wC ad cI cZ tg fn ki nu fi se ju op en sm ob (fillF be 40 (-1)) af (nI sm) rf rp rs ra rb rl) 19 rfl 11 4 dX0_checkProgram_16 rfl (Nat.le_of_ble_eq_true rfl) i0 tyX0_ok nmX0 (by decide +kernel) rfl (by decide +kernel) rfl rfl rfl (Nat.le_of_ble_eq_true rfl) rfl ?_
  refine v_aload_n 20 rfl dX0_checkProgram_19 rfl rfl ?_
  refine v_get (ci := 0) (C := RX0) (T := TX0) (N := 5) (v := .ref (ad 4)) 23 rfl 11 0 dX0_checkProgram_20 rfl (Nat.le_of_ble_eq_true rfl) i0 (by decide +kernel) rfl rfl ?_
  refine v_callF (n := 0) (q0 := 4) (ci := 1) 26 rfl (c_hasOpenBlocks (by omega)) gX0_checkProgram_X1_hasOpenBlocks rfl (by decide +kernel) rfl ⟨(Nat.le_of_ble_eq_true rfl), (Nat.le_of_ble_eq_true rfl)⟩ rfl (Nat.le_of_ble_eq_true rfl) rfl rfl rfl dX0_checkProgram_23 ⟨Nat.zero_le _, Nat.zero_le _⟩ rfl ?_
  refine v_st (st' := [.int (bI (decide (0 < ob)))]) rfl ?_
  refine v_if_eqB (b := decide (0 < ob)) 32 29 rfl dX0_checkProgram_26 (by decide) (fun q => False.elim (by rw [decide_eq_true hob] at q; cases q)) (fun c26 => ?_)
  refine v_bipush (v := nI 8) 31 rfl dX0_checkProgram_29 (by decide) ?_
  exact v_iret dX0_checkProgram_31 rfl rfl rfl

def sh1 (b : Int32) : Int32 := (b.toUInt32 >>> ((nI 1).toUInt32 &&& Int32.toUInt32 31)).toInt32
/-- the next bit; what is left of the bits -/
def rbit (rb : Int32) (rl : Nat) : Bool × Int32 × Nat := if rl = 0 then (false, rb, rl) else (decide (rb &&& nI 1 = nI 1), sh1 rb, rl - 1)
/-- an entry of a run (kind d): fault, where it goes on, what is held, steps, bits, how many -/
def rst (tn : Nat → Nat) (fb : Nat → Bool) (d v x j t A rs : Nat) (rb : Int32) (rl : Nat) : Nat × Nat × Nat × Nat × Int32 × Nat :=
  if d = 4 ∨ d = 7 then (0, if (rbit rb rl).1 = true then t + 1 else j, A, rs + 1, (rbit rb rl).2.1, (rbit rb rl).2.2)
  else if d = 5 ∨ d = 8 then (0, j, A, rs, rb, rl)
  else if d = 6 then (0, t + 1, A, rs, rb, rl)
  else if (sim tn fb d v x A).1 = 0 then (0, t + 1, (sim tn fb d v x A).2, rs + 1, rb, rl)
  else ((sim tn fb d v x A).1, t + 1, A, rs, rb, rl)
def rstA (tn : Nat → Nat) (fb : Nat → Bool) (ki fi se ju : Nat → Int32) (t A rs : Nat) (rb : Int32) (rl : Nat) : Nat × Nat × Nat × Nat × Int32 × Nat := rst tn fb (tN (ki t)) (tN (fi t)) (tN (se t)) (tN (ju t)) t A rs rb rl

set_option maxRecDepth 100000 in
set_option maxHeartbeats 4000000 in
theorem c_takeBit0 {D : va_G} {cI cZ cJ : ClassId} {l : Launch} {ad : Nat → Nat} {tg : Nat → Int32} {fn : Nat → Int32} {ki : Nat → Int32} {nu : Nat → Int32} {fi : Nat → Int32} {se : Nat → Int32} {ju : Nat → Int32} {op : Nat → Int32} {en : Nat} {sm : Nat} {ob : Nat} {be : Nat → Int32} {af : Nat → Int32} {pl : Int32} {rf : Int32} {rp : Int32} {rs : Nat} {ra : Nat} {rb : Int32} {rl : Nat} (h0 : rl = 0) : KM D (tyL cI cZ cJ) l yX3_takeBit wsX3_takeBit 0 0 [.ref (ad 14)] (wC ad cI cZ tg fn ki nu fi se ju op en sm ob be af pl rf rp rs ra rb rl) (some (.int (bI (rbit rb rl).1))) (wC ad cI cZ tg fn ki nu fi se ju op en sm ob be af pl rf rp (rs + 1) ra ((rbit rb rl).2.1) ((rbit rb rl).2.2)) := by
  refine KM.of (cc := cX3_takeBit) (nL := 2) (ret := (some .boolean)) (by decide +kernel) rfl (Nat.le_of_ble_eq_true rfl) ?_
  have i3 : ∀ w ∈ u_ws RX3 TX3 8, w ∈ wsX3_takeBit := by decide +kernel
  refine v_aload_n 1 rfl dX3_takeBit_0 rfl rfl ?_
  refine v_dup 2 rfl dX3_takeBit_1 rfl ?_
  refine v_get (ci := 3) (C := RX3) (T := TX3) (N := 8) (v := .int (nI rs)) 5 rfl 14 4 dX3_takeBit_2 rfl (Nat.le_of_ble_eq_true rfl) i3 (by decide +kernel) rfl rfl ?_
  refine v_iconst (v := nI 1) 6 rfl dX3_takeBit_5 (by decide) ?_
  refine v_iaddN (a := rs) (b := 1) 7 rfl dX3_takeBit_6 ?_
  refine v_put (ci := 3) (C := RX3) (T := TX3) (ty0 := tyX3) (N := 8) (ty := .int) (w' := wC ad cI cZ tg fn ki nu fi se ju op en sm ob be af pl rf rp (rs + 1) ra rb rl) 10 rfl 14 4 dX3_takeBit_7 rfl (Nat.le_of_ble_eq_true rfl) i3 tyX3_ok nmX3 (by decide +kernel) rfl (by decide +kernel) rfl rfl rfl (Nat.le_of_ble_eq_true rfl) rfl ?_
  refine v_aload_n 11 rfl dX3_takeBit_10 rfl rfl ?_
  refine v_get (ci := 3) (C := RX3) (T := TX3) (N := 8) (v := .int (nI rl)) 14 rfl 14 7 dX3_takeBit_11 rfl (Nat.le_of_ble_eq_true rfl) i3 (by decide +kernel) rfl rfl ?_
  refine v_if_gtN (a := rl) 19 17 rfl dX3_takeBit_14 (by decide) (by omega) (fun q => False.elim (by omega)) (fun c14 => ?_)
  refine v_iconst (v := nI 0) 18 rfl dX3_takeBit_17 (by decide) ?_
  refine v_top (v' := bI false) (by decide) ?_
  exact v_zret dX3_takeBit_18 rfl (by simp [rbit, h0]) (by simp [rbit, h0])

set_option maxRecDepth 100000 in
set_option maxHeartbeats 4000000 in
theorem c_takeBit1 {D : va_G} {cI cZ cJ : ClassId} {l : Launch} {ad : Nat → Nat} {tg : Nat → Int32} {fn : Nat → Int32} {ki : Nat → Int32} {nu : Nat → Int32} {fi : Nat → Int32} {se : Nat → Int32} {ju : Nat → Int32} {op : Nat → Int32} {en : Nat} {sm : Nat} {ob : Nat} {be : Nat → Int32} {af : Nat → Int32} {pl : Int32} {rf : Int32} {rp : Int32} {rs : Nat} {ra : Nat} {rb : Int32} {rl : Nat} (h0 : 0 < rl) (hl : rl ≤ 32) : KM D (tyL cI cZ cJ) l yX3_takeBit wsX3_takeBit 0 0 [.ref (ad 14)] (wC ad cI cZ tg fn ki nu fi se ju op en sm ob be af pl rf rp rs ra rb rl) (some (.int (bI (rbit rb rl).1))) (wC ad cI cZ tg fn ki nu fi se ju op en sm ob be af pl rf rp (rs + 1) ra ((rbit rb rl).2.1) ((rbit rb rl).2.2)) := by
  refine KM.of (cc := cX3_takeBit) (nL := 2) (ret := (some .boolean)) (by decide +kernel) rfl (Nat.le_of_ble_eq_true rfl) ?_
  have i3 : ∀ w ∈ u_ws RX3 TX3 8, w ∈ wsX3_takeBit := by decide +kernel
  refine v_aload_n 1 rfl dX3_takeBit_0 rfl rfl ?_
  refine v_dup 2 rfl dX3_takeBit_1 rfl ?_
  refine v_get (ci := 3) (C := RX3) (T := TX3) (N := 8) (v := .int (nI rs)) 5 rfl 14 4 dX3_takeBit_2 rfl (Nat.le_of_ble_eq_true rfl) i3 (by decide +kernel) rfl rfl ?_
  refine v_iconst (v := nI 1) 6 rfl dX3_takeBit_5 (by decide) ?_
  refine v_iaddN (a := rs) (b := 1) 7 rfl dX3_takeBit_6 ?_
  refine v_put (ci := 3) (C := RX3) (T := TX3) (ty0 := tyX3) (N := 8) (ty := .int) (w' := wC ad cI cZ tg fn ki nu fi se ju op en sm ob be af pl rf rp (rs + 1) ra rb rl) 10 rfl 14 4 dX3_takeBit_7 rfl (Nat.le_of_ble_eq_true rfl) i3 tyX3_ok nmX3 (by decide +kernel) rfl (by decide +kernel) rfl rfl rfl (Nat.le_of_ble_eq_true rfl) rfl ?_
  refine v_aload_n 11 rfl dX3_takeBit_10 rfl rfl ?_
  refine v_get (ci := 3) (C := RX3) (T := TX3) (N := 8) (v := .int (nI rl)) 14 rfl 14 7 dX3_takeBit_11 rfl (Nat.le_of_ble_eq_true rfl) i3 (by decide +kernel) rfl rfl ?_
  refine v_if_gtN (a := rl) 19 17 rfl dX3_takeBit_14 (by decide) (by omega) (fun c14 => ?_) (fun q => False.elim (by omega))
  refine v_aload_n 20 rfl dX3_takeBit_19 rfl rfl ?_
  refine v_get (ci := 3) (C := RX3) (T := TX3) (N := 8) (v := .int rb) 23 rfl 14 6 dX3_takeBit_20 rfl (Nat.le_of_ble_eq_true rfl) i3 (by decide +kernel) rfl rfl ?_
  refine v_iconst (v := nI 1) 24 rfl dX3_takeBit_23 (by decide) ?_
  refine v_iand 25 rfl dX3_takeBit_24 ?_
  refine v_iconst (v := nI 1) 26 rfl dX3_takeBit_25 (by decide) ?_
  refine v_icmp_ne 33 29 rfl dX3_takeBit_26 (by decide) (fun c26 => ?_) (fun c26 => ?_)
  · refine v_iconst (v := bI false) 34 rfl dX3_takeBit_33 (by decide) ?_
    refine v_istore_n (lv' := [(1, .int (bI false)), (0, .ref (ad 14))]) 35 rfl dX3_takeBit_34 rfl (Nat.le_of_ble_eq_true rfl) rfl ?_
    refine v_aload_n 36 rfl dX3_takeBit_35 rfl rfl ?_
    refine v_dup 37 rfl dX3_takeBit_36 rfl ?_
    refine v_get (ci := 3) (C := RX3) (T := TX3) (N := 8) (v := .int rb) 40 rfl 14 6 dX3_takeBit_37 rfl (Nat.le_of_ble_eq_true rfl) i3 (by decide +kernel) rfl rfl ?_
    refine v_iconst (v := nI 1) 41 rfl dX3_takeBit_40 (by decide) ?_
    refine v_iushr (v := sh1 rb) 42 rfl dX3_takeBit_41 rfl ?_
    refine v_put (ci := 3) (C := RX3) (T := TX3) (ty0 := tyX3) (N := 8) (ty := .int) (w' := wC ad cI cZ tg fn ki nu fi se ju op en sm ob be af pl rf rp (rs + 1) ra (sh1 rb) rl) 45 rfl 14 6 dX3_takeBit_42 rfl (Nat.le_of_ble_eq_true rfl) i3 tyX3_ok nmX3 (by decide +kernel) rfl (by decide +kernel) rfl rfl rfl (Nat.le_of_ble_eq_true rfl) rfl ?_
    refine v_aload_n 46 rfl dX3_takeBit_45 rfl rfl ?_
    refine v_dup 47 rfl dX3_takeBit_46 rfl ?_
    refine v_get (ci := 3) (C := RX3) (T := TX3) (N := 8) (v := .int (nI rl)) 50 rfl 14 7 dX3_takeBit_47 rfl (Nat.le_of_ble_eq_true rfl) i3 (by decide +kernel) rfl rfl ?_
    refine v_iconst (v := nI 1) 51 rfl dX3_takeBit_50 (by decide) ?_
    refine v_isubN (a := rl) (b := 1) 52 rfl dX3_takeBit_51 (by omega) ?_
    refine v_put (ci := 3) (C := RX3) (T := TX3) (ty0 := tyX3) (N := 8) (ty := .int) (w' := wC ad cI cZ tg fn ki nu fi se ju op en sm ob be af pl rf rp (rs + 1) ra (sh1 rb) (rl - 1)) 55 rfl 14 7 dX3_takeBit_52 rfl (Nat.le_of_ble_eq_true rfl) i3 tyX3_ok nmX3 (by decide +kernel) rfl (by decide +kernel) rfl rfl rfl (Nat.le_of_ble_eq_true rfl) rfl ?_
    refine v_iload_n 56 rfl dX3_takeBit_55 rfl rfl ?_
    exact v_zret dX3_takeBit_56 rfl (by simp [rbit, show rl ≠ 0 by omega, *]) (by simp [rbit, show rl ≠ 0 by omega])
  · refine v_iconst (v := bI true) 30 rfl dX3_takeBit_29 (by decide) ?_
    refine v_goto 34 dX3_takeBit_30 (by decide) ?_
    refine v_istore_n (lv' := [(1, .int (bI true)), (0, .ref (ad 14))]) 35 rfl dX3_takeBit_34 rfl (Nat.le_of_ble_eq_true rfl) rfl ?_
    refine v_aload_n 36 rfl dX3_takeBit_35 rfl rfl ?_
    refine v_dup 37 rfl dX3_takeBit_36 rfl ?_
    refine v_get (ci := 3) (C := RX3) (T := TX3) (N := 8) (v := .int rb) 40 rfl 14 6 dX3_takeBit_37 rfl (Nat.le_of_ble_eq_true rfl) i3 (by decide +kernel) rfl rfl ?_
    refine v_iconst (v := nI 1) 41 rfl dX3_takeBit_40 (by decide) ?_
    refine v_iushr (v := sh1 rb) 42 rfl dX3_takeBit_41 rfl ?_
    refine v_put (ci := 3) (C := RX3) (T := TX3) (ty0 := tyX3) (N := 8) (ty := .int) (w' := wC ad cI cZ tg fn ki nu fi se ju op en sm ob be af pl rf rp (rs + 1) ra (sh1 rb) rl) 45 rfl 14 6 dX3_takeBit_42 rfl (Nat.le_of_ble_eq_true rfl) i3 tyX3_ok nmX3 (by decide +kernel) rfl (by decide +kernel) rfl rfl rfl (Nat.le_of_ble_eq_true rfl) rfl ?_
    refine v_aload_n 46 rfl dX3_takeBit_45 rfl rfl ?_
    refine v_dup 47 rfl dX3_takeBit_46 rfl ?_
    refine v_get (ci := 3) (C := RX3) (T := TX3) (N := 8) (v := .int (nI rl)) 50 rfl 14 7 dX3_takeBit_47 rfl (Nat.le_of_ble_eq_true rfl) i3 (by decide +kernel) rfl rfl ?_
    refine v_iconst (v := nI 1) 51 rfl dX3_takeBit_50 (by decide) ?_
    refine v_isubN (a := rl) (b := 1) 52 rfl dX3_takeBit_51 (by omega) ?_
    refine v_put (ci := 3) (C := RX3) (T := TX3) (ty0 := tyX3) (N := 8) (ty := .int) (w' := wC ad cI cZ tg fn ki nu fi se ju op en sm ob be af pl rf rp (rs + 1) ra (sh1 rb) (rl - 1)) 55 rfl 14 7 dX3_takeBit_52 rfl (Nat.le_of_ble_eq_true rfl) i3 tyX3_ok nmX3 (by decide +kernel) rfl (by decide +kernel) rfl rfl rfl (Nat.le_of_ble_eq_true rfl) rfl ?_
    refine v_iload_n 56 rfl dX3_takeBit_55 rfl rfl ?_
    exact v_zret dX3_takeBit_56 rfl (by simp [rbit, show rl ≠ 0 by omega, *]) (by simp [rbit, show rl ≠ 0 by omega])

theorem c_takeBit {D : va_G} {cI cZ cJ : ClassId} {l : Launch} {ad : Nat → Nat} {tg : Nat → Int32} {fn : Nat → Int32} {ki : Nat → Int32} {nu : Nat → Int32} {fi : Nat → Int32} {se : Nat → Int32} {ju : Nat → Int32} {op : Nat → Int32} {en : Nat} {sm : Nat} {ob : Nat} {be : Nat → Int32} {af : Nat → Int32} {pl : Int32} {rf : Int32} {rp : Int32} {rs : Nat} {ra : Nat} {rb : Int32} {rl : Nat} (hl : rl ≤ 32) : KM D (tyL cI cZ cJ) l yX3_takeBit wsX3_takeBit 0 0 [.ref (ad 14)] (wC ad cI cZ tg fn ki nu fi se ju op en sm ob be af pl rf rp rs ra rb rl) (some (.int (bI (rbit rb rl).1))) (wC ad cI cZ tg fn ki nu fi se ju op en sm ob be af pl rf rp (rs + 1) ra ((rbit rb rl).2.1) ((rbit rb rl).2.2)) := by
  rcases Nat.eq_zero_or_pos rl with h | h
  · exact c_takeBit0 h
  · exact c_takeBit1 h hl

set_option maxRecDepth 100000 in
set_option maxHeartbeats 4000000 in
theorem c_doSimple0 {D : va_G} {cI cZ cJ : ClassId} {l : Launch} {ad : Nat → Nat} {tg : Nat → Int32} {fn : Nat → Int32} {ki : Nat → Int32} {nu : Nat → Int32} {fi : Nat → Int32} {se : Nat → Int32} {ju : Nat → Int32} {op : Nat → Int32} {en : Nat} {sm : Nat} {ob : Nat} {be : Nat → Int32} {af : Nat → Int32} {pl : Int32} {rf : Int32} {rp : Int32} {rs : Nat} {ra : Nat} {rb : Int32} {rl : Nat} (tn : Nat → Nat) (fb : Nat → Bool) (t d v x : Nat) (hte : t < en) (hen : en ≤ 120) (hk : ki t = nI d) (hd : d < 4) (hv : v < 4) (hx : x < 4) (hx3 : d = 0 → x < 3) (hA : ra < 2 ^ 20) (hob : ∀ v, v < 4 → hb ra v ≤ 24) (hf : fi t = nI v) (hs : se t = nI x) (htg : ∀ i, i < 96 → tg i = oI (tn i) ∧ tn i ≤ 5) (hfn : ∀ o, o < 24 → fn o = bI (fb o)) (h0 : (sim tn fb d v x ra).1 = 0) (hb2 : (sim tn fb d v x ra).2 < 2 ^ 20) : KM D (tyL cI cZ cJ) l yX3_doSimple wsX3_doSimple 3 70 [.ref (ad 14), .int (nI t)] (wC ad cI cZ tg fn ki nu fi se ju op en sm ob be af pl rf rp rs ra rb rl) none (wC ad cI cZ tg fn ki nu fi se ju op en sm ob be af pl rf rp (rs + 1) ((sim tn fb d v x ra).2) rb rl) := by
  refine KM.of (cc := cX3_doSimple) (nL := 3) (ret := none) (by decide +kernel) rfl (Nat.le_of_ble_eq_true rfl) ?_
  have i3 : ∀ w ∈ u_ws RX3 TX3 8, w ∈ wsX3_doSimple := by decide +kernel
  refine v_aload_n 1 rfl dX3_doSimple_0 rfl rfl ?_
  refine v_get (ci := 3) (C := RX3) (T := TX3) (N := 8) (v := .ref (ad 4)) 4 rfl 14 0 dX3_doSimple_1 rfl (Nat.le_of_ble_eq_true rfl) i3 (by decide +kernel) rfl rfl ?_
  refine v_iload_n 5 rfl dX3_doSimple_4 rfl rfl ?_
  refine v_aload_n 6 rfl dX3_doSimple_5 rfl rfl ?_
  refine v_get (ci := 3) (C := RX3) (T := TX3) (N := 8) (v := .int (nI ra)) 9 rfl 14 5 dX3_doSimple_6 rfl (Nat.le_of_ble_eq_true rfl) i3 (by decide +kernel) rfl rfl ?_
  refine v_aload_n 10 rfl dX3_doSimple_9 rfl rfl ?_
  refine v_get (ci := 3) (C := RX3) (T := TX3) (N := 8) (v := .ref (ad 1)) 13 rfl 14 1 dX3_doSimple_10 rfl (Nat.le_of_ble_eq_true rfl) i3 (by decide +kernel) rfl rfl ?_
  refine v_callF (n := 3) (q0 := 4) (ci := 1) 16 rfl (c_afterSimple tn fb t d v x ra hte hen hk hd hv hx hx3 hA hob hf hs htg hfn) gX3_doSimple_X1_afterSimple rfl (by decide +kernel) rfl ⟨(Nat.le_of_ble_eq_true rfl), (Nat.le_of_ble_eq_true rfl)⟩ rfl (Nat.le_of_ble_eq_true rfl) rfl rfl rfl dX3_doSimple_13 ⟨Nat.zero_le _, Nat.zero_le _⟩ rfl ?_
  refine v_st (st' := [.int (fI (sim tn fb d v x ra).1 (sim tn fb d v x ra).2)]) rfl ?_
  refine v_top (v' := nI ((sim tn fb d v x ra).2)) (by rw [h0]; rfl) ?_
  refine v_istore_n (lv' := [(2, .int (nI ((sim tn fb d v x ra).2))), (0, .ref (ad 14)), (1, .int (nI t))]) 17 rfl dX3_doSimple_16 rfl (Nat.le_of_ble_eq_true rfl) rfl ?_
  refine v_iload_n 18 rfl dX3_doSimple_17 rfl rfl ?_
  refine v_if_geN (a := (sim tn fb d v x ra).2) 43 21 rfl dX3_doSimple_18 (by decide) (by omega) ?_
  refine v_aload_n 44 rfl dX3_doSimple_43 rfl rfl ?_
  refine v_iload_n 45 rfl dX3_doSimple_44 rfl rfl ?_
  refine v_put (ci := 3) (C := RX3) (T := TX3) (ty0 := tyX3) (N := 8) (ty := .int) (w' := wC ad cI cZ tg fn ki nu fi se ju op en sm ob be af pl rf rp rs ((sim tn fb d v x ra).2) rb rl) 48 rfl 14 5 dX3_doSimple_45 rfl (Nat.le_of_ble_eq_true rfl) i3 tyX3_ok nmX3 (by decide +kernel) rfl (by decide +kernel) rfl rfl rfl (Nat.le_of_ble_eq_true rfl) rfl ?_
  refine v_aload_n 49 rfl dX3_doSimple_48 rfl rfl ?_
  refine v_dup 50 rfl dX3_doSimple_49 rfl ?_
  refine v_get (ci := 3) (C := RX3) (T := TX3) (N := 8) (v := .int (nI rs)) 53 rfl 14 4 dX3_doSimple_50 rfl (Nat.le_of_ble_eq_true rfl) i3 (by decide +kernel) rfl rfl ?_
  refine v_iconst (v := nI 1) 54 rfl dX3_doSimple_53 (by decide) ?_
  refine v_iaddN (a := rs) (b := 1) 55 rfl dX3_doSimple_54 ?_
  refine v_put (ci := 3) (C := RX3) (T := TX3) (ty0 := tyX3) (N := 8) (ty := .int) (w' := wC ad cI cZ tg fn ki nu fi se ju op en sm ob be af pl rf rp (rs + 1) ((sim tn fb d v x ra).2) rb rl) 58 rfl 14 4 dX3_doSimple_55 rfl (Nat.le_of_ble_eq_true rfl) i3 tyX3_ok nmX3 (by decide +kernel) rfl (by decide +kernel) rfl rfl rfl (Nat.le_of_ble_eq_true rfl) rfl ?_
  exact v_vret dX3_doSimple_58 rfl rfl rfl

set_option maxRecDepth 100000 in
set_option maxHeartbeats 4000000 in
theorem c_doSimpleF {D : va_G} {cI cZ cJ : ClassId} {l : Launch} {ad : Nat → Nat} {tg : Nat → Int32} {fn : Nat → Int32} {ki : Nat → Int32} {nu : Nat → Int32} {fi : Nat → Int32} {se : Nat → Int32} {ju : Nat → Int32} {op : Nat → Int32} {en : Nat} {sm : Nat} {ob : Nat} {be : Nat → Int32} {af : Nat → Int32} {pl : Int32} {rf : Int32} {rp : Int32} {rs : Nat} {ra : Nat} {rb : Int32} {rl : Nat} (tn : Nat → Nat) (fb : Nat → Bool) (t d v x : Nat) (hte : t < en) (hen : en ≤ 120) (hk : ki t = nI d) (hd : d < 4) (hv : v < 4) (hx : x < 4) (hx3 : d = 0 → x < 3) (hA : ra < 2 ^ 20) (hob : ∀ v, v < 4 → hb ra v ≤ 24) (hf : fi t = nI v) (hs : se t = nI x) (htg : ∀ i, i < 96 → tg i = oI (tn i) ∧ tn i ≤ 5) (hfn : ∀ o, o < 24 → fn o = bI (fb o)) (n : Int32) (hn : nu t = n) (h0 : (sim tn fb d v x ra).1 ≠ 0) : KM D (tyL cI cZ cJ) l yX3_doSimple wsX3_doSimple 3 70 [.ref (ad 14), .int (nI t)] (wC ad cI cZ tg fn ki nu fi se ju op en sm ob be af pl rf rp rs ra rb rl) none (wC ad cI cZ tg fn ki nu fi se ju op en sm ob be af pl (nI (sim tn fb d v x ra).1) n rs ra rb rl) := by
  refine KM.of (cc := cX3_doSimple) (nL := 3) (ret := none) (by decide +kernel) rfl (Nat.le_of_ble_eq_true rfl) ?_
  have i1 : ∀ w ∈ u_ws RX1 TX1 9, w ∈ wsX3_doSimple := by decide +kernel
  have i3 : ∀ w ∈ u_ws RX3 TX3 8, w ∈ wsX3_doSimple := by decide +kernel
  refine v_aload_n 1 rfl dX3_doSimple_0 rfl rfl ?_
  refine v_get (ci := 3) (C := RX3) (T := TX3) (N := 8) (v := .ref (ad 4)) 4 rfl 14 0 dX3_doSimple_1 rfl (Nat.le_of_ble_eq_true rfl) i3 (by decide +kernel) rfl rfl ?_
  refine v_iload_n 5 rfl dX3_doSimple_4 rfl rfl ?_
  refine v_aload_n 6 rfl dX3_doSimple_5 rfl rfl ?_
  refine v_get (ci := 3) (C := RX3) (T := TX3) (N := 8) (v := .int (nI ra)) 9 rfl 14 5 dX3_doSimple_6 rfl (Nat.le_of_ble_eq_true rfl) i3 (by decide +kernel) rfl rfl ?_
  refine v_aload_n 10 rfl dX3_doSimple_9 rfl rfl ?_
  refine v_get (ci := 3) (C := RX3) (T := TX3) (N := 8) (v := .ref (ad 1)) 13 rfl 14 1 dX3_doSimple_10 rfl (Nat.le_of_ble_eq_true rfl) i3 (by decide +kernel) rfl rfl ?_
  refine v_callF (n := 3) (q0 := 4) (ci := 1) 16 rfl (c_afterSimple tn fb t d v x ra hte hen hk hd hv hx hx3 hA hob hf hs htg hfn) gX3_doSimple_X1_afterSimple rfl (by decide +kernel) rfl ⟨(Nat.le_of_ble_eq_true rfl), (Nat.le_of_ble_eq_true rfl)⟩ rfl (Nat.le_of_ble_eq_true rfl) rfl rfl rfl dX3_doSimple_13 ⟨Nat.zero_le _, Nat.zero_le _⟩ rfl ?_
  refine v_st (st' := [.int (fI (sim tn fb d v x ra).1 (sim tn fb d v x ra).2)]) rfl ?_
  refine v_top (v' := -nI (sim tn fb d v x ra).1) (fI_s h0 _) ?_
  refine v_istore_n (lv' := [(2, .int (-nI (sim tn fb d v x ra).1)), (0, .ref (ad 14)), (1, .int (nI t))]) 17 rfl dX3_doSimple_16 rfl (Nat.le_of_ble_eq_true rfl) rfl ?_
  refine v_iload_n 18 rfl dX3_doSimple_17 rfl rfl ?_
  refine v_if_ge 43 21 rfl dX3_doSimple_18 (by decide) (fun q => absurd q (neg_nle (sim_lt _ _ _ _ _ _) h0)) (fun c18 => ?_)
  refine v_aload_n 22 rfl dX3_doSimple_21 rfl rfl ?_
  refine v_iload_n 23 rfl dX3_doSimple_22 rfl rfl ?_
  refine v_ineg 24 rfl dX3_doSimple_23 ?_
  refine v_top (v' := nI ((sim tn fb d v x ra).1)) (neg_neg9 _ (sim_lt _ _ _ _ _ _)) ?_
  refine v_put (ci := 3) (C := RX3) (T := TX3) (ty0 := tyX3) (N := 8) (ty := .int) (w' := wC ad cI cZ tg fn ki nu fi se ju op en sm ob be af pl (nI ((sim tn fb d v x ra).1)) rp rs ra rb rl) 27 rfl 14 2 dX3_doSimple_24 rfl (Nat.le_of_ble_eq_true rfl) i3 tyX3_ok nmX3 (by decide +kernel) rfl (by decide +kernel) rfl rfl rfl (Nat.le_of_ble_eq_true rfl) rfl ?_
  refine v_aload_n 28 rfl dX3_doSimple_27 rfl rfl ?_
  refine v_aload_n 29 rfl dX3_doSimple_28 rfl rfl ?_
  refine v_get (ci := 3) (C := RX3) (T := TX3) (N := 8) (v := .ref (ad 4)) 32 rfl 14 0 dX3_doSimple_29 rfl (Nat.le_of_ble_eq_true rfl) i3 (by decide +kernel) rfl rfl ?_
  refine v_getN (ci := 1) (C := RX1) (T := TX1) (N := 9) (v := .ref (ad 6)) 35 rfl 4 1 dX3_doSimple_32 rfl (Nat.le_of_ble_eq_true rfl) i1 (by decide +kernel) rfl rfl ?_
  refine v_iload_n 36 rfl dX3_doSimple_35 rfl rfl ?_
  refine v_iald (j := t) (v := n) 37 rfl 6 0 dX3_doSimple_36 rfl rfl (by omega) (by decide) hn ?_
  refine v_put (ci := 3) (C := RX3) (T := TX3) (ty0 := tyX3) (N := 8) (ty := .int) (w' := wC ad cI cZ tg fn ki nu fi se ju op en sm ob be af pl (nI ((sim tn fb d v x ra).1)) n rs ra rb rl) 40 rfl 14 3 dX3_doSimple_37 rfl (Nat.le_of_ble_eq_true rfl) i3 tyX3_ok nmX3 (by decide +kernel) rfl (by decide +kernel) rfl rfl rfl (Nat.le_of_ble_eq_true rfl) rfl ?_
  refine v_goto 58 dX3_doSimple_40 (by decide) ?_
  exact v_vret dX3_doSimple_58 rfl rfl rfl

set_option maxRecDepth 100000 in
set_option maxHeartbeats 4000000 in
theorem c_doOpen4 {D : va_G} {cI cZ cJ : ClassId} {l : Launch} {ad : Nat → Nat} {tg : Nat → Int32} {fn : Nat → Int32} {ki : Nat → Int32} {nu : Nat → Int32} {fi : Nat → Int32} {se : Nat → Int32} {ju : Nat → Int32} {op : Nat → Int32} {en : Nat} {sm : Nat} {ob : Nat} {be : Nat → Int32} {af : Nat → Int32} {pl : Int32} {rf : Int32} {rp : Int32} {rs : Nat} {ra : Nat} {rb : Int32} {rl : Nat} (t j : Nat) (hte : t < en) (hen : en ≤ 120) (hj : ju t = nI j) (hl : rl ≤ 32) (hk : ki t = nI 4) : KM D (tyL cI cZ cJ) l yX3_doEntry wsX3_doEntry 4 92 [.ref (ad 14), .int (nI t)] (wC ad cI cZ tg fn ki nu fi se ju op en sm ob be af pl rf rp rs ra rb rl) (some (.int (nI (if (rbit rb rl).1 = true then t + 1 else j)))) (wC ad cI cZ tg fn ki nu fi se ju op en sm ob be af pl rf rp (rs + 1) ra ((rbit rb rl).2.1) ((rbit rb rl).2.2)) := by
  refine KM.of (cc := cX3_doEntry) (nL := 2) (ret := (some .int)) (by decide +kernel) rfl (Nat.le_of_ble_eq_true rfl) ?_
  have i1 : ∀ w ∈ u_ws RX1 TX1 9, w ∈ wsX3_doEntry := by decide +kernel
  have i3 : ∀ w ∈ u_ws RX3 TX3 8, w ∈ wsX3_doEntry := by decide +kernel
  refine v_aload_n 1 rfl dX3_doEntry_0 rfl rfl ?_
  refine v_get (ci := 3) (C := RX3) (T := TX3) (N := 8) (v := .ref (ad 4)) 4 rfl 14 0 dX3_doEntry_1 rfl (Nat.le_of_ble_eq_true rfl) i3 (by decide +kernel) rfl rfl ?_
  refine v_getN (ci := 1) (C := RX1) (T := TX1) (N := 9) (v := .ref (ad 5)) 7 rfl 4 0 dX3_doEntry_4 rfl (Nat.le_of_ble_eq_true rfl) i1 (by decide +kernel) rfl rfl ?_
  refine v_iload_n 8 rfl dX3_doEntry_7 rfl rfl ?_
  refine v_iald (j := t) (v := nI 4) 9 rfl 5 0 dX3_doEntry_8 rfl rfl (by omega) (by decide) hk ?_
  refine v_tabIn (a := 4) 44 dX3_doEntry_9 (by omega) (by omega) (by omega) rfl (by decide) ?_
  refine v_aload_n 45 rfl dX3_doEntry_44 rfl rfl ?_
  refine v_callF (n := 0) (q0 := 14) (ci := 3) 48 rfl (c_takeBit hl) gX3_doEntry_X3_takeBit rfl (by decide +kernel) rfl ⟨(Nat.le_of_ble_eq_true rfl), (Nat.le_of_ble_eq_true rfl)⟩ rfl (Nat.le_of_ble_eq_true rfl) rfl rfl rfl dX3_doEntry_45 ⟨Nat.zero_le _, Nat.zero_le _⟩ rfl ?_
  refine v_st (st' := [.int (bI ((rbit rb rl).1))]) rfl ?_
  refine v_if_eqB (b := (rbit rb rl).1) 57 51 rfl dX3_doEntry_48 (by decide) (fun c48 => ?_) (fun c48 => ?_)
  · refine v_aload_n 58 rfl dX3_doEntry_57 rfl rfl ?_
    refine v_get (ci := 3) (C := RX3) (T := TX3) (N := 8) (v := .ref (ad 4)) 61 rfl 14 0 dX3_doEntry_58 rfl (Nat.le_of_ble_eq_true rfl) i3 (by decide +kernel) rfl rfl ?_
    refine v_getN (ci := 1) (C := RX1) (T := TX1) (N := 9) (v := .ref (ad 9)) 64 rfl 4 4 dX3_doEntry_61 rfl (Nat.le_of_ble_eq_true rfl) i1 (by decide +kernel) rfl rfl ?_
    refine v_iload_n 65 rfl dX3_doEntry_64 rfl rfl ?_
    refine v_iald (j := t) (v := nI j) 66 rfl 9 0 dX3_doEntry_65 rfl rfl (by omega) (by decide) hj ?_
    exact v_iret dX3_doEntry_66 rfl (by simp [*]) rfl
  · refine v_iload_n 52 rfl dX3_doEntry_51 rfl rfl ?_
    refine v_iconst (v := nI 1) 53 rfl dX3_doEntry_52 (by decide) ?_
    refine v_iaddN (a := t) (b := 1) 54 rfl dX3_doEntry_53 ?_
    refine v_goto 66 dX3_doEntry_54 (by decide) ?_
    exact v_iret dX3_doEntry_66 rfl (by simp [*]) rfl

set_option maxRecDepth 100000 in
set_option maxHeartbeats 4000000 in
theorem c_doOpen7 {D : va_G} {cI cZ cJ : ClassId} {l : Launch} {ad : Nat → Nat} {tg : Nat → Int32} {fn : Nat → Int32} {ki : Nat → Int32} {nu : Nat → Int32} {fi : Nat → Int32} {se : Nat → Int32} {ju : Nat → Int32} {op : Nat → Int32} {en : Nat} {sm : Nat} {ob : Nat} {be : Nat → Int32} {af : Nat → Int32} {pl : Int32} {rf : Int32} {rp : Int32} {rs : Nat} {ra : Nat} {rb : Int32} {rl : Nat} (t j : Nat) (hte : t < en) (hen : en ≤ 120) (hj : ju t = nI j) (hl : rl ≤ 32) (hk : ki t = nI 7) : KM D (tyL cI cZ cJ) l yX3_doEntry wsX3_doEntry 4 92 [.ref (ad 14), .int (nI t)] (wC ad cI cZ tg fn ki nu fi se ju op en sm ob be af pl rf rp rs ra rb rl) (some (.int (nI (if (rbit rb rl).1 = true then t + 1 else j)))) (wC ad cI cZ tg fn ki nu fi se ju op en sm ob be af pl rf rp (rs + 1) ra ((rbit rb rl).2.1) ((rbit rb rl).2.2)) := by
  refine KM.of (cc := cX3_doEntry) (nL := 2) (ret := (some .int)) (by decide +kernel) rfl (Nat.le_of_ble_eq_true rfl) ?_
  have i1 : ∀ w ∈ u_ws RX1 TX1 9, w ∈ wsX3_doEntry := by decide +kernel
  have i3 : ∀ w ∈ u_ws RX3 TX3 8, w ∈ wsX3_doEntry := by decide +kernel
  refine v_aload_n 1 rfl dX3_doEntry_0 rfl rfl ?_
  refine v_get (ci := 3) (C := RX3) (T := TX3) (N := 8) (v := .ref (ad 4)) 4 rfl 14 0 dX3_doEntry_1 rfl (Nat.le_of_ble_eq_true rfl) i3 (by decide +kernel) rfl rfl ?_
  refine v_getN (ci := 1) (C := RX1) (T := TX1) (N := 9) (v := .ref (ad 5)) 7 rfl 4 0 dX3_doEntry_4 rfl (Nat.le_of_ble_eq_true rfl) i1 (by decide +kernel) rfl rfl ?_
  refine v_iload_n 8 rfl dX3_doEntry_7 rfl rfl ?_
  refine v_iald (j := t) (v := nI 7) 9 rfl 5 0 dX3_doEntry_8 rfl rfl (by omega) (by decide) hk ?_
  refine v_tabIn (a := 7) 44 dX3_doEntry_9 (by omega) (by omega) (by omega) rfl (by decide) ?_
  refine v_aload_n 45 rfl dX3_doEntry_44 rfl rfl ?_
  refine v_callF (n := 0) (q0 := 14) (ci := 3) 48 rfl (c_takeBit hl) gX3_doEntry_X3_takeBit rfl (by decide +kernel) rfl ⟨(Nat.le_of_ble_eq_true rfl), (Nat.le_of_ble_eq_true rfl)⟩ rfl (Nat.le_of_ble_eq_true rfl) rfl rfl rfl dX3_doEntry_45 ⟨Nat.zero_le _, Nat.zero_le _⟩ rfl ?_
  refine v_st (st' := [.int (bI ((rbit rb rl).1))]) rfl ?_
  refine v_if_eqB (b := (rbit rb rl).1) 57 51 rfl dX3_doEntry_48 (by decide) (fun c48 => ?_) (fun c48 => ?_)
  · refine v_aload_n 58 rfl dX3_doEntry_57 rfl rfl ?_
    refine v_get (ci := 3) (C := RX3) (T := TX3) (N := 8) (v := .ref (ad 4)) 61 rfl 14 0 dX3_doEntry_58 rfl (Nat.le_of_ble_eq_true rfl) i3 (by decide +kernel) rfl rfl ?_
    refine v_getN (ci := 1) (C := RX1) (T := TX1) (N := 9) (v := .ref (ad 9)) 64 rfl 4 4 dX3_doEntry_61 rfl (Nat.le_of_ble_eq_true rfl) i1 (by decide +kernel) rfl rfl ?_
    refine v_iload_n 65 rfl dX3_doEntry_64 rfl rfl ?_
    refine v_iald (j := t) (v := nI j) 66 rfl 9 0 dX3_doEntry_65 rfl rfl (by omega) (by decide) hj ?_
    exact v_iret dX3_doEntry_66 rfl (by simp [*]) rfl
  · refine v_iload_n 52 rfl dX3_doEntry_51 rfl rfl ?_
    refine v_iconst (v := nI 1) 53 rfl dX3_doEntry_52 (by decide) ?_
    refine v_iaddN (a := t) (b := 1) 54 rfl dX3_doEntry_53 ?_
    refine v_goto 66 dX3_doEntry_54 (by decide) ?_
    exact v_iret dX3_doEntry_66 rfl (by simp [*]) rfl

set_option maxRecDepth 100000 in
set_option maxHeartbeats 4000000 in
theorem c_doJump5 {D : va_G} {cI cZ cJ : ClassId} {l : Launch} {ad : Nat → Nat} {tg : Nat → Int32} {fn : Nat → Int32} {ki : Nat → Int32} {nu : Nat → Int32} {fi : Nat → Int32} {se : Nat → Int32} {ju : Nat → Int32} {op : Nat → Int32} {en : Nat} {sm : Nat} {ob : Nat} {be : Nat → Int32} {af : Nat → Int32} {pl : Int32} {rf : Int32} {rp : Int32} {rs : Nat} {ra : Nat} {rb : Int32} {rl : Nat} (t j : Nat) (hte : t < en) (hen : en ≤ 120) (hj : ju t = nI j) (hl : rl ≤ 32) (hk : ki t = nI 5) : KM D (tyL cI cZ cJ) l yX3_doEntry wsX3_doEntry 4 92 [.ref (ad 14), .int (nI t)] (wC ad cI cZ tg fn ki nu fi se ju op en sm ob be af pl rf rp rs ra rb rl) (some (.int (nI j))) (wC ad cI cZ tg fn ki nu fi se ju op en sm ob be af pl rf rp rs ra rb rl) := by
  refine KM.of (cc := cX3_doEntry) (nL := 2) (ret := (some .int)) (by decide +kernel) rfl (Nat.le_of_ble_eq_true rfl) ?_
  have i1 : ∀ w ∈ u_ws RX1 TX1 9, w ∈ wsX3_doEntry := by decide +kernel
  have i3 : ∀ w ∈ u_ws RX3 TX3 8, w ∈ wsX3_doEntry := by decide +kernel
  refine v_aload_n 1 rfl dX3_doEntry_0 rfl rfl ?_
  refine v_get (ci := 3) (C := RX3) (T := TX3) (N := 8) (v := .ref (ad 4)) 4 rfl 14 0 dX3_doEntry_1 rfl (Nat.le_of_ble_eq_true rfl) i3 (by decide +kernel) rfl rfl ?_
  refine v_getN (ci := 1) (C := RX1) (T := TX1) (N := 9) (v := .ref (ad 5)) 7 rfl 4 0 dX3_doEntry_4 rfl (Nat.le_of_ble_eq_true rfl) i1 (by decide +kernel) rfl rfl ?_
  refine v_iload_n 8 rfl dX3_doEntry_7 rfl rfl ?_
  refine v_iald (j := t) (v := nI 5) 9 rfl 5 0 dX3_doEntry_8 rfl rfl (by omega) (by decide) hk ?_
  refine v_tabIn (a := 5) 67 dX3_doEntry_9 (by omega) (by omega) (by omega) rfl (by decide) ?_
  refine v_aload_n 68 rfl dX3_doEntry_67 rfl rfl ?_
  refine v_get (ci := 3) (C := RX3) (T := TX3) (N := 8) (v := .ref (ad 4)) 71 rfl 14 0 dX3_doEntry_68 rfl (Nat.le_of_ble_eq_true rfl) i3 (by decide +kernel) rfl rfl ?_
  refine v_getN (ci := 1) (C := RX1) (T := TX1) (N := 9) (v := .ref (ad 9)) 74 rfl 4 4 dX3_doEntry_71 rfl (Nat.le_of_ble_eq_true rfl) i1 (by decide +kernel) rfl rfl ?_
  refine v_iload_n 75 rfl dX3_doEntry_74 rfl rfl ?_
  refine v_iald (j := t) (v := nI j) 76 rfl 9 0 dX3_doEntry_75 rfl rfl (by omega) (by decide) hj ?_
  exact v_iret dX3_doEntry_76 rfl rfl rfl

set_option maxRecDepth 100000 in
set_option maxHeartbeats 4000000 in
theorem c_doJump8 {D : va_G} {cI cZ cJ : ClassId} {l : Launch} {ad : Nat → Nat} {tg : Nat → Int32} {fn : Nat → Int32} {ki : Nat → Int32} {nu : Nat → Int32} {fi : Nat → Int32} {se : Nat → Int32} {ju : Nat → Int32} {op : Nat → Int32} {en : Nat} {sm : Nat} {ob : Nat} {be : Nat → Int32} {af : Nat → Int32} {pl : Int32} {rf : Int32} {rp : Int32} {rs : Nat} {ra : Nat} {rb : Int32} {rl : Nat} (t j : Nat) (hte : t < en) (hen : en ≤ 120) (hj : ju t = nI j) (hl : rl ≤ 32) (hk : ki t = nI 8) : KM D (tyL cI cZ cJ) l yX3_doEntry wsX3_doEntry 4 92 [.ref (ad 14), .int (nI t)] (wC ad cI cZ tg fn ki nu fi se ju op en sm ob be af pl rf rp rs ra rb rl) (some (.int (nI j))) (wC ad cI cZ tg fn ki nu fi se ju op en sm ob be af pl rf rp rs ra rb rl) := by
  refine KM.of (cc := cX3_doEntry) (nL := 2) (ret := (some .int)) (by decide +kernel) rfl (Nat.le_of_ble_eq_true rfl) ?_
  have i1 : ∀ w ∈ u_ws RX1 TX1 9, w ∈ wsX3_doEntry := by decide +kernel
  have i3 : ∀ w ∈ u_ws RX3 TX3 8, w ∈ wsX3_doEntry := by decide +kernel
  refine v_aload_n 1 rfl dX3_doEntry_0 rfl rfl ?_
  refine v_get (ci := 3) (C := RX3) (T := TX3) (N := 8) (v := .ref (ad 4)) 4 rfl 14 0 dX3_doEntry_1 rfl (Nat.le_of_ble_eq_true rfl) i3 (by decide +kernel) rfl rfl ?_
  refine v_getN (ci := 1) (C := RX1) (T := TX1) (N := 9) (v := .ref (ad 5)) 7 rfl 4 0 dX3_doEntry_4 rfl (Nat.le_of_ble_eq_true rfl) i1 (by decide +kernel) rfl rfl ?_
  refine v_iload_n 8 rfl dX3_doEntry_7 rfl rfl ?_
  refine v_iald (j := t) (v := nI 8) 9 rfl 5 0 dX3_doEntry_8 rfl rfl (by omega) (by decide) hk ?_
  refine v_tabIn (a := 8) 67 dX3_doEntry_9 (by omega) (by omega) (by omega) rfl (by decide) ?_
  refine v_aload_n 68 rfl dX3_doEntry_67 rfl rfl ?_
  refine v_get (ci := 3) (C := RX3) (T := TX3) (N := 8) (v := .ref (ad 4)) 71 rfl 14 0 dX3_doEntry_68 rfl (Nat.le_of_ble_eq_true rfl) i3 (by decide +kernel) rfl rfl ?_
  refine v_getN (ci := 1) (C := RX1) (T := TX1) (N := 9) (v := .ref (ad 9)) 74 rfl 4 4 dX3_doEntry_71 rfl (Nat.le_of_ble_eq_true rfl) i1 (by decide +kernel) rfl rfl ?_
  refine v_iload_n 75 rfl dX3_doEntry_74 rfl rfl ?_
  refine v_iald (j := t) (v := nI j) 76 rfl 9 0 dX3_doEntry_75 rfl rfl (by omega) (by decide) hj ?_
  exact v_iret dX3_doEntry_76 rfl rfl rfl

set_option maxRecDepth 100000 in
set_option maxHeartbeats 4000000 in
theorem c_doEndIf {D : va_G} {cI cZ cJ : ClassId} {l : Launch} {ad : Nat → Nat} {tg : Nat → Int32} {fn : Nat → Int32} {ki : Nat → Int32} {nu : Nat → Int32} {fi : Nat → Int32} {se : Nat → Int32} {ju : Nat → Int32} {op : Nat → Int32} {en : Nat} {sm : Nat} {ob : Nat} {be : Nat → Int32} {af : Nat → Int32} {pl : Int32} {rf : Int32} {rp : Int32} {rs : Nat} {ra : Nat} {rb : Int32} {rl : Nat} (t j : Nat) (hte : t < en) (hen : en ≤ 120) (hj : ju t = nI j) (hl : rl ≤ 32) (hk : ki t = nI 6) : KM D (tyL cI cZ cJ) l yX3_doEntry wsX3_doEntry 4 92 [.ref (ad 14), .int (nI t)] (wC ad cI cZ tg fn ki nu fi se ju op en sm ob be af pl rf rp rs ra rb rl) (some (.int (nI (t + 1)))) (wC ad cI cZ tg fn ki nu fi se ju op en sm ob be af pl rf rp rs ra rb rl) := by
  refine KM.of (cc := cX3_doEntry) (nL := 2) (ret := (some .int)) (by decide +kernel) rfl (Nat.le_of_ble_eq_true rfl) ?_
  have i1 : ∀ w ∈ u_ws RX1 TX1 9, w ∈ wsX3_doEntry := by decide +kernel
  have i3 : ∀ w ∈ u_ws RX3 TX3 8, w ∈ wsX3_doEntry := by decide +kernel
  refine v_aload_n 1 rfl dX3_doEntry_0 rfl rfl ?_
  refine v_get (ci := 3) (C := RX3) (T := TX3) (N := 8) (v := .ref (ad 4)) 4 rfl 14 0 dX3_doEntry_1 rfl (Nat.le_of_ble_eq_true rfl) i3 (by decide +kernel) rfl rfl ?_
  refine v_getN (ci := 1) (C := RX1) (T := TX1) (N := 9) (v := .ref (ad 5)) 7 rfl 4 0 dX3_doEntry_4 rfl (Nat.le_of_ble_eq_true rfl) i1 (by decide +kernel) rfl rfl ?_
  refine v_iload_n 8 rfl dX3_doEntry_7 rfl rfl ?_
  refine v_iald (j := t) (v := nI 6) 9 rfl 5 0 dX3_doEntry_8 rfl rfl (by omega) (by decide) hk ?_
  refine v_tabIn (a := 6) 77 dX3_doEntry_9 (by omega) (by omega) (by omega) rfl (by decide) ?_
  refine v_iload_n 78 rfl dX3_doEntry_77 rfl rfl ?_
  refine v_iconst (v := nI 1) 79 rfl dX3_doEntry_78 (by decide) ?_
  refine v_iaddN (a := t) (b := 1) 80 rfl dX3_doEntry_79 ?_
  exact v_iret dX3_doEntry_80 rfl rfl rfl

set_option maxRecDepth 100000 in
set_option maxHeartbeats 4000000 in
theorem c_doEntry0 {D : va_G} {cI cZ cJ : ClassId} {l : Launch} {ad : Nat → Nat} {tg : Nat → Int32} {fn : Nat → Int32} {ki : Nat → Int32} {nu : Nat → Int32} {fi : Nat → Int32} {se : Nat → Int32} {ju : Nat → Int32} {op : Nat → Int32} {en : Nat} {sm : Nat} {ob : Nat} {be : Nat → Int32} {af : Nat → Int32} {pl : Int32} {rf : Int32} {rp : Int32} {rs : Nat} {ra : Nat} {rb : Int32} {rl : Nat} (tn : Nat → Nat) (fb : Nat → Bool) (t d v x : Nat) (hte : t < en) (hen : en ≤ 120) (hk : ki t = nI d) (hd : d < 4) (hv : v < 4) (hx : x < 4) (hx3 : d = 0 → x < 3) (hA : ra < 2 ^ 20) (hob : ∀ v, v < 4 → hb ra v ≤ 24) (hf : fi t = nI v) (hs : se t = nI x) (htg : ∀ i, i < 96 → tg i = oI (tn i) ∧ tn i ≤ 5) (hfn : ∀ o, o < 24 → fn o = bI (fb o)) (h0 : (sim tn fb d v x ra).1 = 0) (hb2 : (sim tn fb d v x ra).2 < 2 ^ 20) : KM D (tyL cI cZ cJ) l yX3_doEntry wsX3_doEntry 4 92 [.ref (ad 14), .int (nI t)] (wC ad cI cZ tg fn ki nu fi se ju op en sm ob be af pl rf rp rs ra rb rl) (some (.int (nI (t + 1)))) (wC ad cI cZ tg fn ki nu fi se ju op en sm ob be af pl rf rp (rs + 1) ((sim tn fb d v x ra).2) rb rl) := by
  refine KM.of (cc := cX3_doEntry) (nL := 2) (ret := (some .int)) (by decide +kernel) rfl (Nat.le_of_ble_eq_true rfl) ?_
  have i1 : ∀ w ∈ u_ws RX1 TX1 9, w ∈ wsX3_doEntry := by decide +kernel
  have i3 : ∀ w ∈ u_ws RX3 TX3 8, w ∈ wsX3_doEntry := by decide +kernel
  refine v_aload_n 1 rfl dX3_doEntry_0 rfl rfl ?_
  refine v_get (ci := 3) (C := RX3) (T := TX3) (N := 8) (v := .ref (ad 4)) 4 rfl 14 0 dX3_doEntry_1 rfl (Nat.le_of_ble_eq_true rfl) i3 (by decide +kernel) rfl rfl ?_
  refine v_getN (ci := 1) (C := RX1) (T := TX1) (N := 9) (v := .ref (ad 5)) 7 rfl 4 0 dX3_doEntry_4 rfl (Nat.le_of_ble_eq_true rfl) i1 (by decide +kernel) rfl rfl ?_
  refine v_iload_n 8 rfl dX3_doEntry_7 rfl rfl ?_
  refine v_iald (j := t) (v := nI d) 9 rfl 5 0 dX3_doEntry_8 rfl rfl (by omega) (by decide) hk ?_
  refine v_tabOut (a := d) 81 dX3_doEntry_9 (by omega) (by omega) (by decide) ?_
  refine v_aload_n 82 rfl dX3_doEntry_81 rfl rfl ?_
  refine v_iload_n 83 rfl dX3_doEntry_82 rfl rfl ?_
  refine v_callF (n := 1) (q0 := 14) (ci := 3) 86 rfl (c_doSimple0 tn fb t d v x hte hen hk hd hv hx hx3 hA hob hf hs htg hfn h0 hb2) gX3_doEntry_X3_doSimple rfl (by decide +kernel) rfl ⟨(Nat.le_of_ble_eq_true rfl), (Nat.le_of_ble_eq_true rfl)⟩ rfl (Nat.le_of_ble_eq_true rfl) rfl rfl rfl dX3_doEntry_83 ⟨Nat.zero_le _, Nat.zero_le _⟩ rfl ?_
  refine v_st (st' := []) rfl ?_
  refine v_iload_n 87 rfl dX3_doEntry_86 rfl rfl ?_
  refine v_iconst (v := nI 1) 88 rfl dX3_doEntry_87 (by decide) ?_
  refine v_iaddN (a := t) (b := 1) 89 rfl dX3_doEntry_88 ?_
  exact v_iret dX3_doEntry_89 rfl rfl rfl

set_option maxRecDepth 100000 in
set_option maxHeartbeats 4000000 in
theorem c_doEntryF {D : va_G} {cI cZ cJ : ClassId} {l : Launch} {ad : Nat → Nat} {tg : Nat → Int32} {fn : Nat → Int32} {ki : Nat → Int32} {nu : Nat → Int32} {fi : Nat → Int32} {se : Nat → Int32} {ju : Nat → Int32} {op : Nat → Int32} {en : Nat} {sm : Nat} {ob : Nat} {be : Nat → Int32} {af : Nat → Int32} {pl : Int32} {rf : Int32} {rp : Int32} {rs : Nat} {ra : Nat} {rb : Int32} {rl : Nat} (tn : Nat → Nat) (fb : Nat → Bool) (t d v x : Nat) (hte : t < en) (hen : en ≤ 120) (hk : ki t = nI d) (hd : d < 4) (hv : v < 4) (hx : x < 4) (hx3 : d = 0 → x < 3) (hA : ra < 2 ^ 20) (hob : ∀ v, v < 4 → hb ra v ≤ 24) (hf : fi t = nI v) (hs : se t = nI x) (htg : ∀ i, i < 96 → tg i = oI (tn i) ∧ tn i ≤ 5) (hfn : ∀ o, o < 24 → fn o = bI (fb o)) (n : Int32) (hn : nu t = n) (h0 : (sim tn fb d v x ra).1 ≠ 0) : KM D (tyL cI cZ cJ) l yX3_doEntry wsX3_doEntry 4 92 [.ref (ad 14), .int (nI t)] (wC ad cI cZ tg fn ki nu fi se ju op en sm ob be af pl rf rp rs ra rb rl) (some (.int (nI (t + 1)))) (wC ad cI cZ tg fn ki nu fi se ju op en sm ob be af pl (nI (sim tn fb d v x ra).1) n rs ra rb rl) := by
  refine KM.of (cc := cX3_doEntry) (nL := 2) (ret := (some .int)) (by decide +kernel) rfl (Nat.le_of_ble_eq_true rfl) ?_
  have i1 : ∀ w ∈ u_ws RX1 TX1 9, w ∈ wsX3_doEntry := by decide +kernel
  have i3 : ∀ w ∈ u_ws RX3 TX3 8, w ∈ wsX3_doEntry := by decide +kernel
  refine v_aload_n 1 rfl dX3_doEntry_0 rfl rfl ?_
  refine v_get (ci := 3) (C := RX3) (T := TX3) (N := 8) (v := .ref (ad 4)) 4 rfl 14 0 dX3_doEntry_1 rfl (Nat.le_of_ble_eq_true rfl) i3 (by decide +kernel) rfl rfl ?_
  refine v_getN (ci := 1) (C := RX1) (T := TX1) (N := 9) (v := .ref (ad 5)) 7 rfl 4 0 dX3_doEntry_4 rfl (Nat.le_of_ble_eq_true rfl) i1 (by decide +kernel) rfl rfl ?_
  refine v_iload_n 8 rfl dX3_doEntry_7 rfl rfl ?_
  refine v_iald (j := t) (v := nI d) 9 rfl 5 0 dX3_doEntry_8 rfl rfl (by omega) (by decide) hk ?_
  refine v_tabOut (a := d) 81 dX3_doEntry_9 (by omega) (by omega) (by decide) ?_
  refine v_aload_n 82 rfl dX3_doEntry_81 rfl rfl ?_
  refine v_iload_n 83 rfl dX3_doEntry_82 rfl rfl ?_
  refine v_callF (n := 1) (q0 := 14) (ci := 3) 86 rfl (c_doSimpleF tn fb t d v x hte hen hk hd hv hx hx3 hA hob hf hs htg hfn n hn h0) gX3_doEntry_X3_doSimple rfl (by decide +kernel) rfl ⟨(Nat.le_of_ble_eq_true rfl), (Nat.le_of_ble_eq_true rfl)⟩ rfl (Nat.le_of_ble_eq_true rfl) rfl rfl rfl dX3_doEntry_83 ⟨Nat.zero_le _, Nat.zero_le _⟩ rfl ?_
  refine v_st (st' := []) rfl ?_
  refine v_iload_n 87 rfl dX3_doEntry_86 rfl rfl ?_
  refine v_iconst (v := nI 1) 88 rfl dX3_doEntry_87 (by decide) ?_
  refine v_iaddN (a := t) (b := 1) 89 rfl dX3_doEntry_88 ?_
  exact v_iret dX3_doEntry_89 rfl rfl rfl

/-- what an entry needs, for a run -/
def SafR (ki fi se ju : Nat → Int32) (t A rl : Nat) : Prop := ∃ d v x j : Nat, ki t = nI d ∧ d < 9 ∧ ju t = nI j ∧ j ≤ 120 ∧ fi t = nI v ∧ v < 4 ∧ se t = nI x ∧ x < 4 ∧ (d = 0 → x < 3) ∧ A < 2 ^ 20 ∧ (∀ v, v < 4 → hb A v ≤ 24) ∧ rl ≤ 32
theorem rstA_lt (tn : Nat → Nat) (fb : Nat → Bool) (ki fi se ju : Nat → Int32) (t A rs : Nat) (rb : Int32) (rl : Nat) : (rstA tn fb ki fi se ju t A rs rb rl).1 < 9 := by
  unfold rstA rst
  have := sim_lt tn fb (tN (ki t)) (tN (fi t)) (tN (se t)) A
  split
  · simp
  split
  · simp
  split
  · simp
  split
  · simp
  exact this
theorem c_doEntry {D : va_G} {cI cZ cJ : ClassId} {l : Launch} {ad : Nat → Nat} {tg : Nat → Int32} {fn : Nat → Int32} {ki : Nat → Int32} {nu : Nat → Int32} {fi : Nat → Int32} {se : Nat → Int32} {ju : Nat → Int32} {op : Nat → Int32} {en : Nat} {sm : Nat} {ob : Nat} {be : Nat → Int32} {af : Nat → Int32} {pl : Int32} {rf : Int32} {rp : Int32} {rs : Nat} {ra : Nat} {rb : Int32} {rl : Nat} (tn : Nat → Nat) (fb : Nat → Bool) (t : Nat) (hte : t < en) (hen : en ≤ 120) (hsaf : SafR ki fi se ju t ra rl) (htg : ∀ i, i < 96 → tg i = oI (tn i) ∧ tn i ≤ 5) (hfn : ∀ o, o < 24 → fn o = bI (fb o)) (hA2 : (rstA tn fb ki fi se ju t ra rs rb rl).2.2.1 < 2 ^ 20) : KM D (tyL cI cZ cJ) l yX3_doEntry wsX3_doEntry 4 92 [.ref (ad 14), .int (nI t)] (wC ad cI cZ tg fn ki nu fi se ju op en sm ob be af pl rf rp rs ra rb rl) (some (.int (nI (rstA tn fb ki fi se ju t ra rs rb rl).2.1))) (wC ad cI cZ tg fn ki nu fi se ju op en sm ob be af pl (if (rstA tn fb ki fi se ju t ra rs rb rl).1 = 0 then rf else nI (rstA tn fb ki fi se ju t ra rs rb rl).1) (if (rstA tn fb ki fi se ju t ra rs rb rl).1 = 0 then rp else nu t) ((rstA tn fb ki fi se ju t ra rs rb rl).2.2.2.1) ((rstA tn fb ki fi se ju t ra rs rb rl).2.2.1) ((rstA tn fb ki fi se ju t ra rs rb rl).2.2.2.2.1) ((rstA tn fb ki fi se ju t ra rs rb rl).2.2.2.2.2)) := by
  obtain ⟨d, v, x, j, hk, hd, hj, hj2, hf, hv, hs, hx, hx3, hA, hob, hl⟩ := hsaf
  have e0 : rstA tn fb ki fi se ju t ra rs rb rl = rst tn fb d v x j t ra rs rb rl := by simp only [rstA]; rw [hk, hf, hs, hj, tN_nI (by omega), tN_nI (by omega), tN_nI (by omega), tN_nI (by omega)]
  rw [e0] at hA2 ⊢
  by_cases d4 : d = 4
  · subst d4
    have e : rst tn fb 4 v x j t ra rs rb rl = (0, if (rbit rb rl).1 = true then t + 1 else j, ra, rs + 1, (rbit rb rl).2.1, (rbit rb rl).2.2) := by simp [rst]
    rw [e]
    exact c_doOpen4 t j hte hen hj hl hk
  by_cases d7 : d = 7
  · subst d7
    have e : rst tn fb 7 v x j t ra rs rb rl = (0, if (rbit rb rl).1 = true then t + 1 else j, ra, rs + 1, (rbit rb rl).2.1, (rbit rb rl).2.2) := by simp [rst]
    rw [e]
    exact c_doOpen7 t j hte hen hj hl hk
  by_cases d5 : d = 5
  · subst d5
    have e : rst tn fb 5 v x j t ra rs rb rl = (0, j, ra, rs, rb, rl) := by simp [rst]
    rw [e]
    exact c_doJump5 t j hte hen hj hl hk
  by_cases d8 : d = 8
  · subst d8
    have e : rst tn fb 8 v x j t ra rs rb rl = (0, j, ra, rs, rb, rl) := by simp [rst]
    rw [e]
    exact c_doJump8 t j hte hen hj hl hk
  by_cases d6 : d = 6
  · subst d6
    have e : rst tn fb 6 v x j t ra rs rb rl = (0, t + 1, ra, rs, rb, rl) := by simp [rst]
    rw [e]
    exact c_doEndIf t j hte hen hj hl hk
  by_cases h0 : (sim tn fb d v x ra).1 = 0
  · have e : rst tn fb d v x j t ra rs rb rl = (0, t + 1, (sim tn fb d v x ra).2, rs + 1, rb, rl) := by simp [rst, d4, d7, d5, d8, d6, h0]
    rw [e] at hA2 ⊢
    exact c_doEntry0 tn fb t d v x hte hen hk (by omega) hv hx hx3 hA hob hf hs htg hfn h0 hA2
  · have e : rst tn fb d v x j t ra rs rb rl = ((sim tn fb d v x ra).1, t + 1, ra, rs, rb, rl) := by simp [rst, d4, d7, d5, d8, d6, h0]
    rw [e]
    dsimp only
    rw [if_neg h0, if_neg h0]
    exact c_doEntryF tn fb t d v x hte hen hk (by omega) hv hx hx3 hA hob hf hs htg hfn _ rfl h0
end
section
/-- a run's loop, of at most m turns: fault, place, steps, what is held, bits, how many -/
def rrun (tn : Nat → Nat) (fb : Nat → Bool) (ki nu fi se ju : Nat → Int32) (sm en : Nat) : Nat → Nat → Nat → Nat → Int32 → Nat → Nat × Int32 × Nat × Nat × Int32 × Nat
  | 0, _, A, rs, rb, rl => (leav fb A 4 0, if leav fb A 4 0 = 0 then -1 else nI sm, rs, A, rb, rl)
  | m + 1, t, A, rs, rb, rl => if t < en then (if (rstA tn fb ki fi se ju t A rs rb rl).1 = 0 then rrun tn fb ki nu fi se ju sm en m (rstA tn fb ki fi se ju t A rs rb rl).2.1 (rstA tn fb ki fi se ju t A rs rb rl).2.2.1 (rstA tn fb ki fi se ju t A rs rb rl).2.2.2.1 (rstA tn fb ki fi se ju t A rs rb rl).2.2.2.2.1 (rstA tn fb ki fi se ju t A rs rb rl).2.2.2.2.2 else ((rstA tn fb ki fi se ju t A rs rb rl).1, nu t, (rstA tn fb ki fi se ju t A rs rb rl).2.2.2.1, (rstA tn fb ki fi se ju t A rs rb rl).2.2.1, (rstA tn fb ki fi se ju t A rs rb rl).2.2.2.2.1, (rstA tn fb ki fi se ju t A rs rb rl).2.2.2.2.2)) else (leav fb A 4 0, if leav fb A 4 0 = 0 then -1 else nI sm, rs, A, rb, rl)

set_option maxRecDepth 100000 in
set_option maxHeartbeats 4000000 in
theorem c_runProgram {D : va_G} {cI cZ cJ : ClassId} {l : Launch} {ad : Nat → Nat} {tg : Nat → Int32} {fn : Nat → Int32} {ki : Nat → Int32} {nu : Nat → Int32} {fi : Nat → Int32} {se : Nat → Int32} {ju : Nat → Int32} {op : Nat → Int32} {en : Nat} {sm : Nat} {ob : Nat} {be : Nat → Int32} {af : Nat → Int32} {pl : Int32} {rf : Int32} {rp : Int32} {rs : Nat} {ra : Nat} {rb : Int32} {rl : Nat} (tn : Nat → Nat) (fb : Nat → Bool) (J : Nat → Nat → Nat → Int32 → Nat → Prop) (htg : ∀ i, i < 96 → tg i = oI (tn i) ∧ tn i ≤ 5) (hfn : ∀ o, o < 24 → fn o = bI (fb o)) (hen : en ≤ 120) (hJ : ∀ t A rs rb rl, t < en → J t A rs rb rl → SafR ki fi se ju t A rl ∧ (rstA tn fb ki fi se ju t A rs rb rl).2.2.1 < 2 ^ 20 ∧ ((rstA tn fb ki fi se ju t A rs rb rl).1 = 0 → J (rstA tn fb ki fi se ju t A rs rb rl).2.1 (rstA tn fb ki fi se ju t A rs rb rl).2.2.1 (rstA tn fb ki fi se ju t A rs rb rl).2.2.2.1 (rstA tn fb ki fi se ju t A rs rb rl).2.2.2.2.1 (rstA tn fb ki fi se ju t A rs rb rl).2.2.2.2.2)) (hJe : ∀ t A rs rb rl, J t A rs rb rl → t ≤ 120 ∧ A < 2 ^ 20 ∧ ∀ v, v < 4 → hb A v ≤ 24) (b : Int32) (n : Nat) (hJ0 : J 0 0 0 b n) : KM D (tyL cI cZ cJ) l yX3_runProgram wsX3_runProgram 5 113 [.ref (ad 14), .int b, .int (nI n)] (wC ad cI cZ tg fn ki nu fi se ju op en sm ob be af pl rf rp rs ra rb rl) none (wC ad cI cZ tg fn ki nu fi se ju op en sm ob be af pl (nI (rrun tn fb ki nu fi se ju sm en 1000000 0 0 0 b n).1) ((rrun tn fb ki nu fi se ju sm en 1000000 0 0 0 b n).2.1) ((rrun tn fb ki nu fi se ju sm en 1000000 0 0 0 b n).2.2.1) ((rrun tn fb ki nu fi se ju sm en 1000000 0 0 0 b n).2.2.2.1) ((rrun tn fb ki nu fi se ju sm en 1000000 0 0 0 b n).2.2.2.2.1) ((rrun tn fb ki nu fi se ju sm en 1000000 0 0 0 b n).2.2.2.2.2)) := by
  refine KM.of (cc := cX3_runProgram) (nL := 5) (ret := none) (by decide +kernel) rfl (Nat.le_of_ble_eq_true rfl) ?_
  have i1 : ∀ w ∈ u_ws RX1 TX1 9, w ∈ wsX3_runProgram := by decide +kernel
  have i3 : ∀ w ∈ u_ws RX3 TX3 8, w ∈ wsX3_runProgram := by decide +kernel
  have fin : ∀ (R : Nat × Int32 × Nat × Nat × Int32 × Nat) (A rs1 : Nat) (rb1 : Int32) (rl1 : Nat), A < 2 ^ 20 → (∀ v, v < 4 → hb A v ≤ 24) → (leav fb A 4 0, (if leav fb A 4 0 = 0 then (-1 : Int32) else nI sm), rs1, A, rb1, rl1) = R → V (xM D (tyL cI cZ cJ) l 5 113 (wC ad cI cZ tg fn ki nu fi se ju op en sm ob be af pl rf rp rs ra rb rl) none (wC ad cI cZ tg fn ki nu fi se ju op en sm ob be af pl (nI R.1) R.2.1 R.2.2.1 R.2.2.2.1 R.2.2.2.2.1 R.2.2.2.2.2)) (cX3_runProgram, wsX3_runProgram, yX3_runProgram.cls, 5, none, yX3_runProgram.name) 0 0 (wC ad cI cZ tg fn ki nu fi se ju op en sm ob be af pl (nI 0) (-1) rs1 A rb1 rl1) 73 [(0, .ref (ad 14))] [] := by
    intro R A rs1 rb1 rl1 hEA hEo hres
    refine v_aload_n 74 rfl dX3_runProgram_73 rfl rfl ?_
    refine v_aload_n 75 rfl dX3_runProgram_74 rfl rfl ?_
    refine v_get (ci := 3) (C := RX3) (T := TX3) (N := 8) (v := .ref (ad 1)) 78 rfl 14 1 dX3_runProgram_75 rfl (Nat.le_of_ble_eq_true rfl) i3 (by decide +kernel) rfl rfl ?_
    refine v_aload_n 79 rfl dX3_runProgram_78 rfl rfl ?_
    refine v_get (ci := 3) (C := RX3) (T := TX3) (N := 8) (v := .int (nI A)) 82 rfl 14 5 dX3_runProgram_79 rfl (Nat.le_of_ble_eq_true rfl) i3 (by decide +kernel) rfl rfl ?_
    refine v_callF (n := 1) (q0 := 1) (ci := 2) 85 rfl (c_faultOfLeaving fb A hEA hfn hEo) gX3_runProgram_X2_faultOfLeaving rfl (by decide +kernel) rfl ⟨(Nat.le_of_ble_eq_true rfl), (Nat.le_of_ble_eq_true rfl)⟩ rfl (Nat.le_of_ble_eq_true rfl) rfl rfl rfl dX3_runProgram_82 ⟨Nat.zero_le _, Nat.zero_le _⟩ rfl ?_
    refine v_st (st' := [.int (nI (leav fb A 4 0)), .ref (ad 14)]) rfl ?_
    refine v_put (ci := 3) (C := RX3) (T := TX3) (ty0 := tyX3) (N := 8) (ty := .int) (w' := wC ad cI cZ tg fn ki nu fi se ju op en sm ob be af pl (nI (leav fb A 4 0)) (-1) rs1 A rb1 rl1) 88 rfl 14 2 dX3_runProgram_85 rfl (Nat.le_of_ble_eq_true rfl) i3 tyX3_ok nmX3 (by decide +kernel) rfl (by decide +kernel) rfl rfl rfl (Nat.le_of_ble_eq_true rfl) rfl ?_
    refine v_aload_n 89 rfl dX3_runProgram_88 rfl rfl ?_
    refine v_get (ci := 3) (C := RX3) (T := TX3) (N := 8) (v := .int (nI (leav fb A 4 0))) 92 rfl 14 2 dX3_runProgram_89 rfl (Nat.le_of_ble_eq_true rfl) i3 (by decide +kernel) rfl rfl ?_
    refine v_if_eqN (a := leav fb A 4 0) 106 95 rfl dX3_runProgram_92 (by decide) (by have := leav_v fb A 4 0; omega) (fun c92 => ?_) (fun c92 => ?_)
    · exact v_vret dX3_runProgram_106 rfl rfl (by rw [← hres]; simp [*]; try omega)
    · refine v_aload_n 96 rfl dX3_runProgram_95 rfl rfl ?_
      refine v_aload_n 97 rfl dX3_runProgram_96 rfl rfl ?_
      refine v_get (ci := 3) (C := RX3) (T := TX3) (N := 8) (v := .ref (ad 4)) 100 rfl 14 0 dX3_runProgram_97 rfl (Nat.le_of_ble_eq_true rfl) i3 (by decide +kernel) rfl rfl ?_
      refine v_getN (ci := 1) (C := RX1) (T := TX1) (N := 9) (v := .int (nI sm)) 103 rfl 4 7 dX3_runProgram_100 rfl (Nat.le_of_ble_eq_true rfl) i1 (by decide +kernel) rfl rfl ?_
      refine v_put (ci := 3) (C := RX3) (T := TX3) (ty0 := tyX3) (N := 8) (ty := .int) (w' := wC ad cI cZ tg fn ki nu fi se ju op en sm ob be af pl (nI (leav fb A 4 0)) (nI sm) rs1 A rb1 rl1) 106 rfl 14 3 dX3_runProgram_103 rfl (Nat.le_of_ble_eq_true rfl) i3 tyX3_ok nmX3 (by decide +kernel) rfl (by decide +kernel) rfl rfl rfl (Nat.le_of_ble_eq_true rfl) rfl ?_
      exact v_vret dX3_runProgram_106 rfl rfl (by rw [← hres]; simp [*]; try omega)
  have loop : ∀ (R : Nat × Int32 × Nat × Nat × Int32 × Nat) (m tu t A rs1 : Nat) (rb1 : Int32) (rl1 : Nat), tu + m = 1000000 → J t A rs1 rb1 rl1 → rrun tn fb ki nu fi se ju sm en m t A rs1 rb1 rl1 = R → V (xM D (tyL cI cZ cJ) l 5 113 (wC ad cI cZ tg fn ki nu fi se ju op en sm ob be af pl rf rp rs ra rb rl) none (wC ad cI cZ tg fn ki nu fi se ju op en sm ob be af pl (nI R.1) R.2.1 R.2.2.1 R.2.2.2.1 R.2.2.2.2.1 R.2.2.2.2.2)) (cX3_runProgram, wsX3_runProgram, yX3_runProgram.cls, 5, none, yX3_runProgram.name) 0 0 (wC ad cI cZ tg fn ki nu fi se ju op en sm ob be af pl (nI 0) (-1) rs1 A rb1 rl1) 35 [(4, .int (nI tu)), (3, .int (nI t)), (0, .ref (ad 14))] [] := by
    intro R m
    induction m with
    | zero =>
      intro tu t A rs1 rb1 rl1 hm hJt hres
      obtain ⟨htl, hEA, hEo⟩ := hJe _ _ _ _ _ hJt
      refine v_iload 37 rfl dX3_runProgram_35 rfl ?_
      refine v_ldc (v := nI 1000000) 39 rfl dX3_runProgram_37 (by decide +kernel) ?_
      refine v_icmp_geN (a := tu) (b := 1000000) 73 42 rfl dX3_runProgram_39 (by decide) (by omega) (by omega) (fun c39 => ?_) (fun q => False.elim (by omega))
      refine v_lv [2] rfl ?_
      exact fin R A rs1 rb1 rl1 hEA hEo hres
    | succ m ih =>
      intro tu t A rs1 rb1 rl1 hm hJt hres
      obtain ⟨htl, hEA, hEo⟩ := hJe _ _ _ _ _ hJt
      rcases Nat.lt_or_ge t en with hte | hte
      · have hu := (hJ t A rs1 rb1 rl1 hte hJt).2.1
        refine v_iload 37 rfl dX3_runProgram_35 rfl ?_
        refine v_ldc (v := nI 1000000) 39 rfl dX3_runProgram_37 (by decide +kernel) ?_
        refine v_icmp_geN (a := tu) (b := 1000000) 73 42 rfl dX3_runProgram_39 (by decide) (by omega) (by omega) (fun q => False.elim (by omega)) (fun c39 => ?_)
        refine v_aload_n 43 rfl dX3_runProgram_42 rfl rfl ?_
        refine v_get (ci := 3) (C := RX3) (T := TX3) (N := 8) (v := .ref (ad 4)) 46 rfl 14 0 dX3_runProgram_43 rfl (Nat.le_of_ble_eq_true rfl) i3 (by decide +kernel) rfl rfl ?_
        refine v_iload_n 47 rfl dX3_runProgram_46 rfl rfl ?_
        refine v_callF (n := 1) (q0 := 4) (ci := 1) 50 rfl (c_hasEntryT t (by omega) (by omega)) gX3_runProgram_X1_hasEntry rfl (by decide +kernel) rfl ⟨(Nat.le_of_ble_eq_true rfl), (Nat.le_of_ble_eq_true rfl)⟩ rfl (Nat.le_of_ble_eq_true rfl) rfl rfl rfl dX3_runProgram_47 ⟨Nat.zero_le _, Nat.zero_le _⟩ rfl ?_
        refine v_st (st' := [.int (bI true)]) rfl ?_
        refine v_if_eqB (b := true) 73 53 rfl dX3_runProgram_50 (by decide) (fun q => False.elim (by cases q)) (fun c50 => ?_)
        refine v_aload_n 54 rfl dX3_runProgram_53 rfl rfl ?_
        refine v_iload_n 55 rfl dX3_runProgram_54 rfl rfl ?_
        refine v_callF (n := 1) (q0 := 14) (ci := 3) 58 rfl (c_doEntry tn fb t hte hen (hJ t A rs1 rb1 rl1 hte hJt).1 htg hfn (hJ t A rs1 rb1 rl1 hte hJt).2.1) gX3_runProgram_X3_doEntry rfl (by decide +kernel) rfl ⟨(Nat.le_of_ble_eq_true rfl), (Nat.le_of_ble_eq_true rfl)⟩ rfl (Nat.le_of_ble_eq_true rfl) rfl rfl rfl dX3_runProgram_55 ⟨Nat.zero_le _, Nat.zero_le _⟩ rfl ?_
        refine v_st (st' := [.int (nI ((rstA tn fb ki fi se ju t A rs1 rb1 rl1).2.1))]) rfl ?_
        refine v_istore_n (lv' := [(3, .int (nI ((rstA tn fb ki fi se ju t A rs1 rb1 rl1).2.1))), (4, .int (nI tu)), (0, .ref (ad 14))]) 59 rfl dX3_runProgram_58 rfl (Nat.le_of_ble_eq_true rfl) rfl ?_
        by_cases h0 : (rstA tn fb ki fi se ju t A rs1 rb1 rl1).1 = 0
        · have hnx := hJe _ _ _ _ _ ((hJ t A rs1 rb1 rl1 hte hJt).2.2 h0)
          refine v_w (w' := wC ad cI cZ tg fn ki nu fi se ju op en sm ob be af pl (nI 0) (-1) ((rstA tn fb ki fi se ju t A rs1 rb1 rl1).2.2.2.1) ((rstA tn fb ki fi se ju t A rs1 rb1 rl1).2.2.1) ((rstA tn fb ki fi se ju t A rs1 rb1 rl1).2.2.2.2.1) ((rstA tn fb ki fi se ju t A rs1 rb1 rl1).2.2.2.2.2)) (by rw [if_pos h0, if_pos h0]) ?_
          refine v_aload_n 60 rfl dX3_runProgram_59 rfl rfl ?_
          refine v_get (ci := 3) (C := RX3) (T := TX3) (N := 8) (v := .int (nI 0)) 63 rfl 14 2 dX3_runProgram_60 rfl (Nat.le_of_ble_eq_true rfl) i3 (by decide +kernel) rfl rfl ?_
          refine v_if_eqN (a := 0) 67 66 rfl dX3_runProgram_63 (by decide) (by omega) (fun c63 => ?_) (fun q => False.elim (by omega))
          refine v_iinc (v := nI (tu + 1)) (lv' := [(4, .int (nI (tu + 1))), (3, .int (nI ((rstA tn fb ki fi se ju t A rs1 rb1 rl1).2.1))), (0, .ref (ad 14))]) 70 rfl dX3_runProgram_67 1 rfl (nI_add _ _) (Nat.le_of_ble_eq_true rfl) rfl ?_
          refine v_goto 35 dX3_runProgram_70 (by decide) ?_
          refine v_lv [0, 1, 2] rfl ?_
          exact ih (tu + 1) _ _ _ _ _ (by omega) ((hJ t A rs1 rb1 rl1 hte hJt).2.2 h0) (by rw [← hres]; simp [rrun, hte, h0])
        · refine v_w (w' := wC ad cI cZ tg fn ki nu fi se ju op en sm ob be af pl (nI (rstA tn fb ki fi se ju t A rs1 rb1 rl1).1) (nu t) ((rstA tn fb ki fi se ju t A rs1 rb1 rl1).2.2.2.1) ((rstA tn fb ki fi se ju t A rs1 rb1 rl1).2.2.1) ((rstA tn fb ki fi se ju t A rs1 rb1 rl1).2.2.2.2.1) ((rstA tn fb ki fi se ju t A rs1 rb1 rl1).2.2.2.2.2)) (by rw [if_neg h0, if_neg h0]) ?_
          refine v_aload_n 60 rfl dX3_runProgram_59 rfl rfl ?_
          refine v_get (ci := 3) (C := RX3) (T := TX3) (N := 8) (v := .int (nI ((rstA tn fb ki fi se ju t A rs1 rb1 rl1).1))) 63 rfl 14 2 dX3_runProgram_60 rfl (Nat.le_of_ble_eq_true rfl) i3 (by decide +kernel) rfl rfl ?_
          refine v_if_eqN (a := (rstA tn fb ki fi se ju t A rs1 rb1 rl1).1) 67 66 rfl dX3_runProgram_63 (by decide) (by have := rstA_lt tn fb ki fi se ju t A rs1 rb1 rl1; omega) (fun q => False.elim (by omega)) (fun c63 => ?_)
          exact v_vret dX3_runProgram_66 rfl rfl (by rw [← hres]; simp [rrun, hte, h0])
      · skip
        refine v_iload 37 rfl dX3_runProgram_35 rfl ?_
        refine v_ldc (v := nI 1000000) 39 rfl dX3_runProgram_37 (by decide +kernel) ?_
        refine v_icmp_geN (a := tu) (b := 1000000) 73 42 rfl dX3_runProgram_39 (by decide) (by omega) (by omega) (fun q => False.elim (by omega)) (fun c39 => ?_)
        refine v_aload_n 43 rfl dX3_runProgram_42 rfl rfl ?_
        refine v_get (ci := 3) (C := RX3) (T := TX3) (N := 8) (v := .ref (ad 4)) 46 rfl 14 0 dX3_runProgram_43 rfl (Nat.le_of_ble_eq_true rfl) i3 (by decide +kernel) rfl rfl ?_
        refine v_iload_n 47 rfl dX3_runProgram_46 rfl rfl ?_
        refine v_callF (n := 1) (q0 := 4) (ci := 1) 50 rfl (c_hasEntryF t (by omega) (by omega)) gX3_runProgram_X1_hasEntry rfl (by decide +kernel) rfl ⟨(Nat.le_of_ble_eq_true rfl), (Nat.le_of_ble_eq_true rfl)⟩ rfl (Nat.le_of_ble_eq_true rfl) rfl rfl rfl dX3_runProgram_47 ⟨Nat.zero_le _, Nat.zero_le _⟩ rfl ?_
        refine v_st (st' := [.int (bI false)]) rfl ?_
        refine v_if_eqB (b := false) 73 53 rfl dX3_runProgram_50 (by decide) (fun c50 => ?_) (fun q => False.elim (by cases q))
        refine v_lv [2] rfl ?_
        exact fin R A rs1 rb1 rl1 hEA hEo (by rw [← hres]; simp [rrun, show ¬ t < en by omega])
  refine v_aload_n 1 rfl dX3_runProgram_0 rfl rfl ?_
  refine v_iconst (v := nI 0) 2 rfl dX3_runProgram_1 (by decide) ?_
  refine v_put (ci := 3) (C := RX3) (T := TX3) (ty0 := tyX3) (N := 8) (ty := .int) (w' := wC ad cI cZ tg fn ki nu fi se ju op en sm ob be af pl (nI 0) rp rs ra rb rl) 5 rfl 14 2 dX3_runProgram_2 rfl (Nat.le_of_ble_eq_true rfl) i3 tyX3_ok nmX3 (by decide +kernel) rfl (by decide +kernel) rfl rfl rfl (Nat.le_of_ble_eq_true rfl) rfl ?_
  refine v_aload_n 6 rfl dX3_runProgram_5 rfl rfl ?_
  refine v_iconst (v := -1) 7 rfl dX3_runProgram_6 (by decide) ?_
  refine v_put (ci := 3) (C := RX3) (T := TX3) (ty0 := tyX3) (N := 8) (ty := .int) (w' := wC ad cI cZ tg fn ki nu fi se ju op en sm ob be af pl (nI 0) (-1) rs ra rb rl) 10 rfl 14 3 dX3_runProgram_7 rfl (Nat.le_of_ble_eq_true rfl) i3 tyX3_ok nmX3 (by decide +kernel) rfl (by decide +kernel) rfl rfl rfl (Nat.le_of_ble_eq_true rfl) rfl ?_
  refine v_aload_n 11 rfl dX3_runProgram_10 rfl rfl ?_
  refine v_iconst (v := nI 0) 12 rfl dX3_runProgram_11 (by decide) ?_
  refine v_put (ci := 3) (C := RX3) (T := TX3) (ty0 := tyX3) (N := 8) (ty := .int) (w' := wC ad cI cZ tg fn ki nu fi se ju op en sm ob be af pl (nI 0) (-1) 0 ra rb rl) 15 rfl 14 4 dX3_runProgram_12 rfl (Nat.le_of_ble_eq_true rfl) i3 tyX3_ok nmX3 (by decide +kernel) rfl (by decide +kernel) rfl rfl rfl (Nat.le_of_ble_eq_true rfl) rfl ?_
  refine v_aload_n 16 rfl dX3_runProgram_15 rfl rfl ?_
  refine v_iconst (v := nI 0) 17 rfl dX3_runProgram_16 (by decide) ?_
  refine v_put (ci := 3) (C := RX3) (T := TX3) (ty0 := tyX3) (N := 8) (ty := .int) (w' := wC ad cI cZ tg fn ki nu fi se ju op en sm ob be af pl (nI 0) (-1) 0 0 rb rl) 20 rfl 14 5 dX3_runProgram_17 rfl (Nat.le_of_ble_eq_true rfl) i3 tyX3_ok nmX3 (by decide +kernel) rfl (by decide +kernel) rfl rfl rfl (Nat.le_of_ble_eq_true rfl) rfl ?_
  refine v_aload_n 21 rfl dX3_runProgram_20 rfl rfl ?_
  refine v_iload_n 22 rfl dX3_runProgram_21 rfl rfl ?_
  refine v_put (ci := 3) (C := RX3) (T := TX3) (ty0 := tyX3) (N := 8) (ty := .int) (w' := wC ad cI cZ tg fn ki nu fi se ju op en sm ob be af pl (nI 0) (-1) 0 0 b rl) 25 rfl 14 6 dX3_runProgram_22 rfl (Nat.le_of_ble_eq_true rfl) i3 tyX3_ok nmX3 (by decide +kernel) rfl (by decide +kernel) rfl rfl rfl (Nat.le_of_ble_eq_true rfl) rfl ?_
  refine v_aload_n 26 rfl dX3_runProgram_25 rfl rfl ?_
  refine v_iload_n 27 rfl dX3_runProgram_26 rfl rfl ?_
  refine v_put (ci := 3) (C := RX3) (T := TX3) (ty0 := tyX3) (N := 8) (ty := .int) (w' := wC ad cI cZ tg fn ki nu fi se ju op en sm ob be af pl (nI 0) (-1) 0 0 b n) 30 rfl 14 7 dX3_runProgram_27 rfl (Nat.le_of_ble_eq_true rfl) i3 tyX3_ok nmX3 (by decide +kernel) rfl (by decide +kernel) rfl rfl rfl (Nat.le_of_ble_eq_true rfl) rfl ?_
  refine v_iconst (v := nI 0) 31 rfl dX3_runProgram_30 (by decide) ?_
  refine v_istore_n (lv' := [(3, .int (nI 0)), (0, .ref (ad 14)), (1, .int b), (2, .int (nI n))]) 32 rfl dX3_runProgram_31 rfl (Nat.le_of_ble_eq_true rfl) rfl ?_
  refine v_iconst (v := nI 0) 33 rfl dX3_runProgram_32 (by decide) ?_
  refine v_istore (lv' := [(4, .int (nI 0)), (3, .int (nI 0)), (0, .ref (ad 14)), (1, .int b), (2, .int (nI n))]) 35 rfl dX3_runProgram_33 (Nat.le_of_ble_eq_true rfl) rfl ?_
  refine v_lv [0, 1, 2] rfl ?_
  exact loop _ 1000000 0 0 0 0 _ _ rfl hJ0 rfl

set_option maxRecDepth 100000 in
set_option maxHeartbeats 4000000 in
theorem c_leadM {D : va_G} {cI cZ cJ : ClassId} {l : Launch} {ad : Nat → Nat} {tg : Nat → Int32} {fn : Nat → Int32} {ki : Nat → Int32} {nu : Nat → Int32} {fi : Nat → Int32} {se : Nat → Int32} {ju : Nat → Int32} {op : Nat → Int32} {en : Nat} {sm : Nat} {ob : Nat} {be : Nat → Int32} {af : Nat → Int32} {pl : Int32} {rf : Int32} {rp : Int32} {rs : Nat} {ra : Nat} {rb : Int32} {rl : Nat} (p s e : Nat) (hp : p < 3) (hs : s < 5) (he : e < 4) : KM D (tyL cI cZ cJ) l yX4_lead wsX4_lead 2 45 [.ref (ad 0), .int (nI p), .int (nI s), .int (nI e), .int (-1)] (wC ad cI cZ tg fn ki nu fi se ju op en sm ob be af pl rf rp rs ra rb rl) (some (.int (bI true))) (wC ad cI cZ (upd tg ((8 * p + s) * 4 + e) (-1)) fn ki nu fi se ju op en sm ob be af pl rf rp rs ra rb rl) := by
  refine KM.of (cc := cX4_lead) (nL := 6) (ret := (some .boolean)) (by decide +kernel) rfl (Nat.le_of_ble_eq_true rfl) ?_
  have i4 : ∀ w ∈ u_ws RX4 TX4 4, w ∈ wsX4_lead := by decide +kernel
  refine v_iload_n 1 rfl dX4_lead_0 rfl rfl ?_
  refine v_iload_n 2 rfl dX4_lead_1 rfl rfl ?_
  refine v_callS (n := 2) 5 rfl (c_isStateT p s (by omega) (by omega)) gX4_lead_X4_isState rfl (by decide +kernel) rfl ⟨(Nat.le_of_ble_eq_true rfl), (Nat.le_of_ble_eq_true rfl)⟩ rfl (Nat.le_of_ble_eq_true rfl) dX4_lead_2 ⟨Nat.zero_le _, Nat.zero_le _⟩ ?_
  refine v_st (st' := [.int (bI true)]) rfl ?_
  refine v_if_eqB (b := true) 35 8 rfl dX4_lead_5 (by decide) (fun q => False.elim (by cases q)) (fun c5 => ?_)
  refine v_iload_n 9 rfl dX4_lead_8 rfl rfl ?_
  refine v_iconst (v := nI 4) 10 rfl dX4_lead_9 (by decide) ?_
  refine v_callS (n := 2) 13 rfl (c_isBelowT e 4 (by omega) (by omega)) gX4_lead_X4_isBelow rfl (by decide +kernel) rfl ⟨(Nat.le_of_ble_eq_true rfl), (Nat.le_of_ble_eq_true rfl)⟩ rfl (Nat.le_of_ble_eq_true rfl) dX4_lead_10 ⟨Nat.zero_le _, Nat.zero_le _⟩ ?_
  refine v_st (st' := [.int (bI true)]) rfl ?_
  refine v_if_eqB (b := true) 35 16 rfl dX4_lead_13 (by decide) (fun q => False.elim (by cases q)) (fun c13 => ?_)
  refine v_iload 18 rfl dX4_lead_16 rfl ?_
  refine v_iconst (v := -1) 19 rfl dX4_lead_18 (by decide) ?_
  refine v_icmp_eq 31 22 rfl dX4_lead_19 (by decide) (fun c19 => ?_) (fun q => False.elim (by exact absurd rfl q))
  refine v_iconst (v := bI true) 32 rfl dX4_lead_31 (by decide) ?_
  refine v_goto 36 dX4_lead_32 (by decide) ?_
  refine v_istore (lv' := [(5, .int (bI true)), (0, .ref (ad 0)), (1, .int (nI p)), (2, .int (nI s)), (3, .int (nI e)), (4, .int (-1))]) 38 rfl dX4_lead_36 (Nat.le_of_ble_eq_true rfl) rfl ?_
  refine v_iload 40 rfl dX4_lead_38 rfl ?_
  refine v_if_eqB (b := true) 65 43 rfl dX4_lead_40 (by decide) (fun q => False.elim (by cases q)) (fun c40 => ?_)
  refine v_aload_n 44 rfl dX4_lead_43 rfl rfl ?_
  refine v_get (ci := 4) (C := RX4) (T := TX4) (N := 4) (v := .ref (ad 1)) 47 rfl 0 0 dX4_lead_44 rfl (Nat.le_of_ble_eq_true rfl) i4 (by decide +kernel) rfl rfl ?_
  refine v_iload_n 48 rfl dX4_lead_47 rfl rfl ?_
  refine v_iload_n 49 rfl dX4_lead_48 rfl rfl ?_
  refine v_callS (n := 2) 52 rfl (c_objectOf p s) gX4_lead_X4_objectOf rfl (by decide +kernel) rfl ⟨(Nat.le_of_ble_eq_true rfl), (Nat.le_of_ble_eq_true rfl)⟩ rfl (Nat.le_of_ble_eq_true rfl) dX4_lead_49 ⟨Nat.zero_le _, Nat.zero_le _⟩ ?_
  refine v_st (st' := [.int (nI (8 * p + s)), .ref (ad 1)]) rfl ?_
  refine v_iload_n 53 rfl dX4_lead_52 rfl rfl ?_
  refine v_iload 55 rfl dX4_lead_53 rfl ?_
  refine v_callF (n := 3) (q0 := 1) (ci := 2) 58 rfl (c_setTarget (8 * p + s) e (-1) (by omega) (by omega)) gX4_lead_X2_setTarget rfl (by decide +kernel) rfl ⟨(Nat.le_of_ble_eq_true rfl), (Nat.le_of_ble_eq_true rfl)⟩ rfl (Nat.le_of_ble_eq_true rfl) rfl rfl rfl dX4_lead_55 ⟨Nat.zero_le _, Nat.zero_le _⟩ rfl ?_
  refine v_st (st' := [.int (bI true)]) rfl ?_
  refine v_if_eqB (b := true) 65 61 rfl dX4_lead_58 (by decide) (fun q => False.elim (by cases q)) (fun c58 => ?_)
  refine v_iconst (v := nI 1) 62 rfl dX4_lead_61 (by decide) ?_
  refine v_goto 66 dX4_lead_62 (by decide) ?_
  refine v_top (v' := bI true) (by decide) ?_
  exact v_zret dX4_lead_66 rfl rfl rfl

set_option maxRecDepth 100000 in
set_option maxHeartbeats 4000000 in
theorem c_leadN {D : va_G} {cI cZ cJ : ClassId} {l : Launch} {ad : Nat → Nat} {tg : Nat → Int32} {fn : Nat → Int32} {ki : Nat → Int32} {nu : Nat → Int32} {fi : Nat → Int32} {se : Nat → Int32} {ju : Nat → Int32} {op : Nat → Int32} {en : Nat} {sm : Nat} {ob : Nat} {be : Nat → Int32} {af : Nat → Int32} {pl : Int32} {rf : Int32} {rp : Int32} {rs : Nat} {ra : Nat} {rb : Int32} {rl : Nat} (p s e j : Nat) (hp : p < 3) (hs : s < 5) (he : e < 4) (hj : j < 5) : KM D (tyL cI cZ cJ) l yX4_lead wsX4_lead 2 45 [.ref (ad 0), .int (nI p), .int (nI s), .int (nI e), .int (nI j)] (wC ad cI cZ tg fn ki nu fi se ju op en sm ob be af pl rf rp rs ra rb rl) (some (.int (bI true))) (wC ad cI cZ (upd tg ((8 * p + s) * 4 + e) (nI j)) fn ki nu fi se ju op en sm ob be af pl rf rp rs ra rb rl) := by
  refine KM.of (cc := cX4_lead) (nL := 6) (ret := (some .boolean)) (by decide +kernel) rfl (Nat.le_of_ble_eq_true rfl) ?_
  have i4 : ∀ w ∈ u_ws RX4 TX4 4, w ∈ wsX4_lead := by decide +kernel
  refine v_iload_n 1 rfl dX4_lead_0 rfl rfl ?_
  refine v_iload_n 2 rfl dX4_lead_1 rfl rfl ?_
  refine v_callS (n := 2) 5 rfl (c_isStateT p s (by omega) (by omega)) gX4_lead_X4_isState rfl (by decide +kernel) rfl ⟨(Nat.le_of_ble_eq_true rfl), (Nat.le_of_ble_eq_true rfl)⟩ rfl (Nat.le_of_ble_eq_true rfl) dX4_lead_2 ⟨Nat.zero_le _, Nat.zero_le _⟩ ?_
  refine v_st (st' := [.int (bI true)]) rfl ?_
  refine v_if_eqB (b := true) 35 8 rfl dX4_lead_5 (by decide) (fun q => False.elim (by cases q)) (fun c5 => ?_)
  refine v_iload_n 9 rfl dX4_lead_8 rfl rfl ?_
  refine v_iconst (v := nI 4) 10 rfl dX4_lead_9 (by decide) ?_
  refine v_callS (n := 2) 13 rfl (c_isBelowT e 4 (by omega) (by omega)) gX4_lead_X4_isBelow rfl (by decide +kernel) rfl ⟨(Nat.le_of_ble_eq_true rfl), (Nat.le_of_ble_eq_true rfl)⟩ rfl (Nat.le_of_ble_eq_true rfl) dX4_lead_10 ⟨Nat.zero_le _, Nat.zero_le _⟩ ?_
  refine v_st (st' := [.int (bI true)]) rfl ?_
  refine v_if_eqB (b := true) 35 16 rfl dX4_lead_13 (by decide) (fun q => False.elim (by cases q)) (fun c13 => ?_)
  refine v_iload 18 rfl dX4_lead_16 rfl ?_
  refine v_iconst (v := -1) 19 rfl dX4_lead_18 (by decide) ?_
  refine v_icmp_eq 31 22 rfl dX4_lead_19 (by decide) (fun q => False.elim (by exact absurd q (nI_ne_m1 (by omega)))) (fun c19 => ?_)
  refine v_iload 24 rfl dX4_lead_22 rfl ?_
  refine v_iconst (v := nI 5) 25 rfl dX4_lead_24 (by decide) ?_
  refine v_callS (n := 2) 28 rfl (c_isBelowT j 5 (by omega) (by omega)) gX4_lead_X4_isBelow rfl (by decide +kernel) rfl ⟨(Nat.le_of_ble_eq_true rfl), (Nat.le_of_ble_eq_true rfl)⟩ rfl (Nat.le_of_ble_eq_true rfl) dX4_lead_25 ⟨Nat.zero_le _, Nat.zero_le _⟩ ?_
  refine v_st (st' := [.int (bI true)]) rfl ?_
  refine v_if_eqB (b := true) 35 31 rfl dX4_lead_28 (by decide) (fun q => False.elim (by cases q)) (fun c28 => ?_)
  refine v_iconst (v := bI true) 32 rfl dX4_lead_31 (by decide) ?_
  refine v_goto 36 dX4_lead_32 (by decide) ?_
  refine v_istore (lv' := [(5, .int (bI true)), (0, .ref (ad 0)), (1, .int (nI p)), (2, .int (nI s)), (3, .int (nI e)), (4, .int (nI j))]) 38 rfl dX4_lead_36 (Nat.le_of_ble_eq_true rfl) rfl ?_
  refine v_iload 40 rfl dX4_lead_38 rfl ?_
  refine v_if_eqB (b := true) 65 43 rfl dX4_lead_40 (by decide) (fun q => False.elim (by cases q)) (fun c40 => ?_)
  refine v_aload_n 44 rfl dX4_lead_43 rfl rfl ?_
  refine v_get (ci := 4) (C := RX4) (T := TX4) (N := 4) (v := .ref (ad 1)) 47 rfl 0 0 dX4_lead_44 rfl (Nat.le_of_ble_eq_true rfl) i4 (by decide +kernel) rfl rfl ?_
  refine v_iload_n 48 rfl dX4_lead_47 rfl rfl ?_
  refine v_iload_n 49 rfl dX4_lead_48 rfl rfl ?_
  refine v_callS (n := 2) 52 rfl (c_objectOf p s) gX4_lead_X4_objectOf rfl (by decide +kernel) rfl ⟨(Nat.le_of_ble_eq_true rfl), (Nat.le_of_ble_eq_true rfl)⟩ rfl (Nat.le_of_ble_eq_true rfl) dX4_lead_49 ⟨Nat.zero_le _, Nat.zero_le _⟩ ?_
  refine v_st (st' := [.int (nI (8 * p + s)), .ref (ad 1)]) rfl ?_
  refine v_iload_n 53 rfl dX4_lead_52 rfl rfl ?_
  refine v_iload 55 rfl dX4_lead_53 rfl ?_
  refine v_callF (n := 3) (q0 := 1) (ci := 2) 58 rfl (c_setTarget (8 * p + s) e (nI j) (by omega) (by omega)) gX4_lead_X2_setTarget rfl (by decide +kernel) rfl ⟨(Nat.le_of_ble_eq_true rfl), (Nat.le_of_ble_eq_true rfl)⟩ rfl (Nat.le_of_ble_eq_true rfl) rfl rfl rfl dX4_lead_55 ⟨Nat.zero_le _, Nat.zero_le _⟩ rfl ?_
  refine v_st (st' := [.int (bI true)]) rfl ?_
  refine v_if_eqB (b := true) 65 61 rfl dX4_lead_58 (by decide) (fun q => False.elim (by cases q)) (fun c58 => ?_)
  refine v_iconst (v := nI 1) 62 rfl dX4_lead_61 (by decide) ?_
  refine v_goto 66 dX4_lead_62 (by decide) ?_
  refine v_top (v' := bI true) (by decide) ?_
  exact v_zret dX4_lead_66 rfl rfl rfl

set_option maxRecDepth 100000 in
set_option maxHeartbeats 4000000 in
theorem c_leadNo {D : va_G} {cI cZ cJ : ClassId} {l : Launch} {ad : Nat → Nat} {tg : Nat → Int32} {fn : Nat → Int32} {ki : Nat → Int32} {nu : Nat → Int32} {fi : Nat → Int32} {se : Nat → Int32} {ju : Nat → Int32} {op : Nat → Int32} {en : Nat} {sm : Nat} {ob : Nat} {be : Nat → Int32} {af : Nat → Int32} {pl : Int32} {rf : Int32} {rp : Int32} {rs : Nat} {ra : Nat} {rb : Int32} {rl : Nat} (p s e t : Int32) (h : ((bel p (nI 3) && bel s (nI 5)) && bel e (nI 4) && (decide (t = -1) || bel t (nI 5))) = false) : KM D (tyL cI cZ cJ) l yX4_lead wsX4_lead 2 42 [.ref (ad 0), .int p, .int s, .int e, .int t] (wC ad cI cZ tg fn ki nu fi se ju op en sm ob be af pl rf rp rs ra rb rl) (some (.int (bI false))) (wC ad cI cZ tg fn ki nu fi se ju op en sm ob be af pl rf rp rs ra rb rl) := by
  refine KM.of (cc := cX4_lead) (nL := 6) (ret := (some .boolean)) (by decide +kernel) rfl (Nat.le_of_ble_eq_true rfl) ?_
  refine v_iload_n 1 rfl dX4_lead_0 rfl rfl ?_
  refine v_iload_n 2 rfl dX4_lead_1 rfl rfl ?_
  refine v_callS (n := 2) 5 rfl (c_isState p s) gX4_lead_X4_isState rfl (by decide +kernel) rfl ⟨(Nat.le_of_ble_eq_true rfl), (Nat.le_of_ble_eq_true rfl)⟩ rfl (Nat.le_of_ble_eq_true rfl) dX4_lead_2 ⟨Nat.zero_le _, Nat.zero_le _⟩ ?_
  refine v_st (st' := [.int (bI (bel p (nI 3) && bel s (nI 5)))]) rfl ?_
  refine v_if_eqB (b := (bel p (nI 3) && bel s (nI 5))) 35 8 rfl dX4_lead_5 (by decide) (fun c5 => ?_) (fun c5 => ?_)
  · refine v_iconst (v := bI false) 36 rfl dX4_lead_35 (by decide) ?_
    refine v_istore (lv' := [(5, .int (bI false)), (0, .ref (ad 0)), (1, .int p), (2, .int s), (3, .int e), (4, .int t)]) 38 rfl dX4_lead_36 (Nat.le_of_ble_eq_true rfl) rfl ?_
    refine v_iload 40 rfl dX4_lead_38 rfl ?_
    refine v_if_eqB (b := false) 65 43 rfl dX4_lead_40 (by decide) (fun c40 => ?_) (fun q => False.elim (by cases q))
    refine v_iconst (v := nI 0) 66 rfl dX4_lead_65 (by decide) ?_
    refine v_top (v' := bI false) (by decide) ?_
    exact v_zret dX4_lead_66 rfl rfl rfl
  · refine v_iload_n 9 rfl dX4_lead_8 rfl rfl ?_
    refine v_iconst (v := nI 4) 10 rfl dX4_lead_9 (by decide) ?_
    refine v_callS (n := 2) 13 rfl (c_isBelow e (nI 4)) gX4_lead_X4_isBelow rfl (by decide +kernel) rfl ⟨(Nat.le_of_ble_eq_true rfl), (Nat.le_of_ble_eq_true rfl)⟩ rfl (Nat.le_of_ble_eq_true rfl) dX4_lead_10 ⟨Nat.zero_le _, Nat.zero_le _⟩ ?_
    refine v_st (st' := [.int (bI (bel e (nI 4)))]) rfl ?_
    refine v_if_eqB (b := bel e (nI 4)) 35 16 rfl dX4_lead_13 (by decide) (fun c13 => ?_) (fun c13 => ?_)
    · refine v_iconst (v := bI false) 36 rfl dX4_lead_35 (by decide) ?_
      refine v_istore (lv' := [(5, .int (bI false)), (0, .ref (ad 0)), (1, .int p), (2, .int s), (3, .int e), (4, .int t)]) 38 rfl dX4_lead_36 (Nat.le_of_ble_eq_true rfl) rfl ?_
      refine v_iload 40 rfl dX4_lead_38 rfl ?_
      refine v_if_eqB (b := false) 65 43 rfl dX4_lead_40 (by decide) (fun c40 => ?_) (fun q => False.elim (by cases q))
      refine v_iconst (v := nI 0) 66 rfl dX4_lead_65 (by decide) ?_
      refine v_top (v' := bI false) (by decide) ?_
      exact v_zret dX4_lead_66 rfl rfl rfl
    · refine v_iload 18 rfl dX4_lead_16 rfl ?_
      refine v_iconst (v := -1) 19 rfl dX4_lead_18 (by decide) ?_
      refine v_icmp_eq 31 22 rfl dX4_lead_19 (by decide) (fun c19 => ?_) (fun c19 => ?_)
      · exact absurd h (by simp [*])
      · refine v_iload 24 rfl dX4_lead_22 rfl ?_
        refine v_iconst (v := nI 5) 25 rfl dX4_lead_24 (by decide) ?_
        refine v_callS (n := 2) 28 rfl (c_isBelow t (nI 5)) gX4_lead_X4_isBelow rfl (by decide +kernel) rfl ⟨(Nat.le_of_ble_eq_true rfl), (Nat.le_of_ble_eq_true rfl)⟩ rfl (Nat.le_of_ble_eq_true rfl) dX4_lead_25 ⟨Nat.zero_le _, Nat.zero_le _⟩ ?_
        refine v_st (st' := [.int (bI (bel t (nI 5)))]) rfl ?_
        refine v_if_eqB (b := bel t (nI 5)) 35 31 rfl dX4_lead_28 (by decide) (fun c28 => ?_) (fun c28 => ?_)
        · refine v_iconst (v := bI false) 36 rfl dX4_lead_35 (by decide) ?_
          refine v_istore (lv' := [(5, .int (bI false)), (0, .ref (ad 0)), (1, .int p), (2, .int s), (3, .int e), (4, .int t)]) 38 rfl dX4_lead_36 (Nat.le_of_ble_eq_true rfl) rfl ?_
          refine v_iload 40 rfl dX4_lead_38 rfl ?_
          refine v_if_eqB (b := false) 65 43 rfl dX4_lead_40 (by decide) (fun c40 => ?_) (fun q => False.elim (by cases q))
          refine v_iconst (v := nI 0) 66 rfl dX4_lead_65 (by decide) ?_
          refine v_top (v' := bI false) (by decide) ?_
          exact v_zret dX4_lead_66 rfl rfl rfl
        · exact absurd h (by simp [*])

set_option maxRecDepth 100000 in
set_option maxHeartbeats 4000000 in
theorem c_mark {D : va_G} {cI cZ cJ : ClassId} {l : Launch} {ad : Nat → Nat} {tg : Nat → Int32} {fn : Nat → Int32} {ki : Nat → Int32} {nu : Nat → Int32} {fi : Nat → Int32} {se : Nat → Int32} {ju : Nat → Int32} {op : Nat → Int32} {en : Nat} {sm : Nat} {ob : Nat} {be : Nat → Int32} {af : Nat → Int32} {pl : Int32} {rf : Int32} {rp : Int32} {rs : Nat} {ra : Nat} {rb : Int32} {rl : Nat} (p s : Nat) (b : Bool) (hp : p < 3) (hs : s < 5) : KM D (tyL cI cZ cJ) l yX4_mark wsX4_mark 2 44 [.ref (ad 0), .int (nI p), .int (nI s), .int (bI b)] (wC ad cI cZ tg fn ki nu fi se ju op en sm ob be af pl rf rp rs ra rb rl) (some (.int (bI true))) (wC ad cI cZ tg (upd fn (8 * p + s) (bI b)) ki nu fi se ju op en sm ob be af pl rf rp rs ra rb rl) := by
  refine KM.of (cc := cX4_mark) (nL := 4) (ret := (some .boolean)) (by decide +kernel) rfl (Nat.le_of_ble_eq_true rfl) ?_
  have i4 : ∀ w ∈ u_ws RX4 TX4 4, w ∈ wsX4_mark := by decide +kernel
  refine v_iload_n 1 rfl dX4_mark_0 rfl rfl ?_
  refine v_iload_n 2 rfl dX4_mark_1 rfl rfl ?_
  refine v_callS (n := 2) 5 rfl (c_isStateT p s (by omega) (by omega)) gX4_mark_X4_isState rfl (by decide +kernel) rfl ⟨(Nat.le_of_ble_eq_true rfl), (Nat.le_of_ble_eq_true rfl)⟩ rfl (Nat.le_of_ble_eq_true rfl) dX4_mark_2 ⟨Nat.zero_le _, Nat.zero_le _⟩ ?_
  refine v_st (st' := [.int (bI true)]) rfl ?_
  refine v_if_eqB (b := true) 28 8 rfl dX4_mark_5 (by decide) (fun q => False.elim (by cases q)) (fun c5 => ?_)
  refine v_aload_n 9 rfl dX4_mark_8 rfl rfl ?_
  refine v_get (ci := 4) (C := RX4) (T := TX4) (N := 4) (v := .ref (ad 1)) 12 rfl 0 0 dX4_mark_9 rfl (Nat.le_of_ble_eq_true rfl) i4 (by decide +kernel) rfl rfl ?_
  refine v_iload_n 13 rfl dX4_mark_12 rfl rfl ?_
  refine v_iload_n 14 rfl dX4_mark_13 rfl rfl ?_
  refine v_callS (n := 2) 17 rfl (c_objectOf p s) gX4_mark_X4_objectOf rfl (by decide +kernel) rfl ⟨(Nat.le_of_ble_eq_true rfl), (Nat.le_of_ble_eq_true rfl)⟩ rfl (Nat.le_of_ble_eq_true rfl) dX4_mark_14 ⟨Nat.zero_le _, Nat.zero_le _⟩ ?_
  refine v_st (st' := [.int (nI (8 * p + s)), .ref (ad 1)]) rfl ?_
  refine v_iload_n 18 rfl dX4_mark_17 rfl rfl ?_
  refine v_callF (n := 2) (q0 := 1) (ci := 2) 21 rfl (c_setFinal (8 * p + s) b (by omega)) gX4_mark_X2_setFinal rfl (by decide +kernel) rfl ⟨(Nat.le_of_ble_eq_true rfl), (Nat.le_of_ble_eq_true rfl)⟩ rfl (Nat.le_of_ble_eq_true rfl) rfl rfl rfl dX4_mark_18 ⟨Nat.zero_le _, Nat.zero_le _⟩ rfl ?_
  refine v_st (st' := [.int (bI true)]) rfl ?_
  refine v_if_eqB (b := true) 28 24 rfl dX4_mark_21 (by decide) (fun q => False.elim (by cases q)) (fun c21 => ?_)
  refine v_iconst (v := nI 1) 25 rfl dX4_mark_24 (by decide) ?_
  refine v_goto 29 dX4_mark_25 (by decide) ?_
  refine v_top (v' := bI true) (by decide) ?_
  exact v_zret dX4_mark_29 rfl rfl rfl

set_option maxRecDepth 100000 in
set_option maxHeartbeats 4000000 in
theorem c_markNo {D : va_G} {cI cZ cJ : ClassId} {l : Launch} {ad : Nat → Nat} {tg : Nat → Int32} {fn : Nat → Int32} {ki : Nat → Int32} {nu : Nat → Int32} {fi : Nat → Int32} {se : Nat → Int32} {ju : Nat → Int32} {op : Nat → Int32} {en : Nat} {sm : Nat} {ob : Nat} {be : Nat → Int32} {af : Nat → Int32} {pl : Int32} {rf : Int32} {rp : Int32} {rs : Nat} {ra : Nat} {rb : Int32} {rl : Nat} (p s : Int32) (b : Bool) (h : (bel p (nI 3) && bel s (nI 5)) = false) : KM D (tyL cI cZ cJ) l yX4_mark wsX4_mark 2 42 [.ref (ad 0), .int p, .int s, .int (bI b)] (wC ad cI cZ tg fn ki nu fi se ju op en sm ob be af pl rf rp rs ra rb rl) (some (.int (bI false))) (wC ad cI cZ tg fn ki nu fi se ju op en sm ob be af pl rf rp rs ra rb rl) := by
  refine KM.of (cc := cX4_mark) (nL := 4) (ret := (some .boolean)) (by decide +kernel) rfl (Nat.le_of_ble_eq_true rfl) ?_
  refine v_iload_n 1 rfl dX4_mark_0 rfl rfl ?_
  refine v_iload_n 2 rfl dX4_mark_1 rfl rfl ?_
  refine v_callS (n := 2) 5 rfl (c_isState p s) gX4_mark_X4_isState rfl (by decide +kernel) rfl ⟨(Nat.le_of_ble_eq_true rfl), (Nat.le_of_ble_eq_true rfl)⟩ rfl (Nat.le_of_ble_eq_true rfl) dX4_mark_2 ⟨Nat.zero_le _, Nat.zero_le _⟩ ?_
  refine v_st (st' := [.int (bI (bel p (nI 3) && bel s (nI 5)))]) rfl ?_
  refine v_if_eqB (b := (bel p (nI 3) && bel s (nI 5))) 28 8 rfl dX4_mark_5 (by decide) (fun c5 => ?_) (fun q => False.elim (by rw [h] at q; cases q))
  refine v_iconst (v := nI 0) 29 rfl dX4_mark_28 (by decide) ?_
  refine v_top (v' := bI false) (by decide) ?_
  exact v_zret dX4_mark_29 rfl rfl rfl

set_option maxRecDepth 100000 in
set_option maxHeartbeats 4000000 in
theorem c_make {D : va_G} {cI cZ cJ : ClassId} {l : Launch} {ad : Nat → Nat} {tg : Nat → Int32} {fn : Nat → Int32} {ki : Nat → Int32} {nu : Nat → Int32} {fi : Nat → Int32} {se : Nat → Int32} {ju : Nat → Int32} {op : Nat → Int32} {en : Nat} {sm : Nat} {ob : Nat} {be : Nat → Int32} {af : Nat → Int32} {pl : Int32} {rf : Int32} {rp : Int32} {rs : Nat} {ra : Nat} {rb : Int32} {rl : Nat} (v x : Nat) (hv : v < 4) (hx : x < 3) (hs : sm < 40) (hen : en < 120) : KM D (tyL cI cZ cJ) l yX4_make wsX4_make 2 47 [.ref (ad 0), .int (nI v), .int (nI x)] (wC ad cI cZ tg fn ki nu fi se ju op en sm ob be af pl rf rp rs ra rb rl) (some (.int (nI sm))) (wC ad cI cZ tg fn (upd ki en (nI 0)) (upd nu en (nI sm)) (upd fi en (nI v)) (upd se en (nI x)) ju op (en + 1) (sm + 1) ob be af pl rf rp rs ra rb rl) := by
  refine KM.of (cc := cX4_make) (nL := 3) (ret := (some .int)) (by decide +kernel) rfl (Nat.le_of_ble_eq_true rfl) ?_
  have i4 : ∀ w ∈ u_ws RX4 TX4 4, w ∈ wsX4_make := by decide +kernel
  refine v_iload_n 1 rfl dX4_make_0 rfl rfl ?_
  refine v_callS (n := 1) 4 rfl (c_isVariableT v (by omega)) gX4_make_X4_isVariable rfl (by decide +kernel) rfl ⟨(Nat.le_of_ble_eq_true rfl), (Nat.le_of_ble_eq_true rfl)⟩ rfl (Nat.le_of_ble_eq_true rfl) dX4_make_1 ⟨Nat.zero_le _, Nat.zero_le _⟩ ?_
  refine v_st (st' := [.int (bI true)]) rfl ?_
  refine v_if_eqB (b := true) 28 7 rfl dX4_make_4 (by decide) (fun q => False.elim (by cases q)) (fun c4 => ?_)
  refine v_iload_n 8 rfl dX4_make_7 rfl rfl ?_
  refine v_iconst (v := nI 3) 9 rfl dX4_make_8 (by decide) ?_
  refine v_callS (n := 2) 12 rfl (c_isBelowT x 3 (by omega) (by omega)) gX4_make_X4_isBelow rfl (by decide +kernel) rfl ⟨(Nat.le_of_ble_eq_true rfl), (Nat.le_of_ble_eq_true rfl)⟩ rfl (Nat.le_of_ble_eq_true rfl) dX4_make_9 ⟨Nat.zero_le _, Nat.zero_le _⟩ ?_
  refine v_st (st' := [.int (bI true)]) rfl ?_
  refine v_if_eqB (b := true) 28 15 rfl dX4_make_12 (by decide) (fun q => False.elim (by cases q)) (fun c12 => ?_)
  refine v_aload_n 16 rfl dX4_make_15 rfl rfl ?_
  refine v_get (ci := 4) (C := RX4) (T := TX4) (N := 4) (v := .ref (ad 4)) 19 rfl 0 1 dX4_make_16 rfl (Nat.le_of_ble_eq_true rfl) i4 (by decide +kernel) rfl rfl ?_
  refine v_iconst (v := nI 0) 20 rfl dX4_make_19 (by decide) ?_
  refine v_iload_n 21 rfl dX4_make_20 rfl rfl ?_
  refine v_iload_n 22 rfl dX4_make_21 rfl rfl ?_
  refine v_callF (n := 3) (q0 := 4) (ci := 1) 25 rfl (c_addSimple (nI 0) (nI v) (nI x) hs hen) gX4_make_X1_addSimple rfl (by decide +kernel) rfl ⟨(Nat.le_of_ble_eq_true rfl), (Nat.le_of_ble_eq_true rfl)⟩ rfl (Nat.le_of_ble_eq_true rfl) rfl rfl rfl dX4_make_22 ⟨Nat.zero_le _, Nat.zero_le _⟩ rfl ?_
  refine v_st (st' := [.int (nI sm)]) rfl ?_
  refine v_goto 29 dX4_make_25 (by decide) ?_
  exact v_iret dX4_make_29 rfl rfl rfl

set_option maxRecDepth 100000 in
set_option maxHeartbeats 4000000 in
theorem c_makeF {D : va_G} {cI cZ cJ : ClassId} {l : Launch} {ad : Nat → Nat} {tg : Nat → Int32} {fn : Nat → Int32} {ki : Nat → Int32} {nu : Nat → Int32} {fi : Nat → Int32} {se : Nat → Int32} {ju : Nat → Int32} {op : Nat → Int32} {en : Nat} {sm : Nat} {ob : Nat} {be : Nat → Int32} {af : Nat → Int32} {pl : Int32} {rf : Int32} {rp : Int32} {rs : Nat} {ra : Nat} {rb : Int32} {rl : Nat} (v x : Nat) (hv : v < 4) (hx : x < 3) (hs : sm = 40) : KM D (tyL cI cZ cJ) l yX4_make wsX4_make 2 41 [.ref (ad 0), .int (nI v), .int (nI x)] (wC ad cI cZ tg fn ki nu fi se ju op en sm ob be af pl rf rp rs ra rb rl) (some (.int (-1))) (wC ad cI cZ tg fn ki nu fi se ju op en sm ob be af pl rf rp rs ra rb rl) := by
  refine KM.of (cc := cX4_make) (nL := 3) (ret := (some .int)) (by decide +kernel) rfl (Nat.le_of_ble_eq_true rfl) ?_
  have i4 : ∀ w ∈ u_ws RX4 TX4 4, w ∈ wsX4_make := by decide +kernel
  refine v_iload_n 1 rfl dX4_make_0 rfl rfl ?_
  refine v_callS (n := 1) 4 rfl (c_isVariableT v (by omega)) gX4_make_X4_isVariable rfl (by decide +kernel) rfl ⟨(Nat.le_of_ble_eq_true rfl), (Nat.le_of_ble_eq_true rfl)⟩ rfl (Nat.le_of_ble_eq_true rfl) dX4_make_1 ⟨Nat.zero_le _, Nat.zero_le _⟩ ?_
  refine v_st (st' := [.int (bI true)]) rfl ?_
  refine v_if_eqB (b := true) 28 7 rfl dX4_make_4 (by decide) (fun q => False.elim (by cases q)) (fun c4 => ?_)
  refine v_iload_n 8 rfl dX4_make_7 rfl rfl ?_
  refine v_iconst (v := nI 3) 9 rfl dX4_make_8 (by decide) ?_
  refine v_callS (n := 2) 12 rfl (c_isBelowT x 3 (by omega) (by omega)) gX4_make_X4_isBelow rfl (by decide +kernel) rfl ⟨(Nat.le_of_ble_eq_true rfl), (Nat.le_of_ble_eq_true rfl)⟩ rfl (Nat.le_of_ble_eq_true rfl) dX4_make_9 ⟨Nat.zero_le _, Nat.zero_le _⟩ ?_
  refine v_st (st' := [.int (bI true)]) rfl ?_
  refine v_if_eqB (b := true) 28 15 rfl dX4_make_12 (by decide) (fun q => False.elim (by cases q)) (fun c12 => ?_)
  refine v_aload_n 16 rfl dX4_make_15 rfl rfl ?_
  refine v_get (ci := 4) (C := RX4) (T := TX4) (N := 4) (v := .ref (ad 4)) 19 rfl 0 1 dX4_make_16 rfl (Nat.le_of_ble_eq_true rfl) i4 (by decide +kernel) rfl rfl ?_
  refine v_iconst (v := nI 0) 20 rfl dX4_make_19 (by decide) ?_
  refine v_iload_n 21 rfl dX4_make_20 rfl rfl ?_
  refine v_iload_n 22 rfl dX4_make_21 rfl rfl ?_
  refine v_callF (n := 3) (q0 := 4) (ci := 1) 25 rfl (c_addSimpleNo (nI 0) (nI v) (nI x) hs) gX4_make_X1_addSimple rfl (by decide +kernel) rfl ⟨(Nat.le_of_ble_eq_true rfl), (Nat.le_of_ble_eq_true rfl)⟩ rfl (Nat.le_of_ble_eq_true rfl) rfl rfl rfl dX4_make_22 ⟨Nat.zero_le _, Nat.zero_le _⟩ rfl ?_
  refine v_st (st' := [.int (-1)]) rfl ?_
  refine v_goto 29 dX4_make_25 (by decide) ?_
  exact v_iret dX4_make_29 rfl rfl rfl

set_option maxRecDepth 100000 in
set_option maxHeartbeats 4000000 in
theorem c_makeNo {D : va_G} {cI cZ cJ : ClassId} {l : Launch} {ad : Nat → Nat} {tg : Nat → Int32} {fn : Nat → Int32} {ki : Nat → Int32} {nu : Nat → Int32} {fi : Nat → Int32} {se : Nat → Int32} {ju : Nat → Int32} {op : Nat → Int32} {en : Nat} {sm : Nat} {ob : Nat} {be : Nat → Int32} {af : Nat → Int32} {pl : Int32} {rf : Int32} {rp : Int32} {rs : Nat} {ra : Nat} {rb : Int32} {rl : Nat} (v x : Int32) (h : (bel v (nI 4) && bel x (nI 3)) = false) : KM D (tyL cI cZ cJ) l yX4_make wsX4_make 2 41 [.ref (ad 0), .int v, .int x] (wC ad cI cZ tg fn ki nu fi se ju op en sm ob be af pl rf rp rs ra rb rl) (some (.int (-1))) (wC ad cI cZ tg fn ki nu fi se ju op en sm ob be af pl rf rp rs ra rb rl) := by
  refine KM.of (cc := cX4_make) (nL := 3) (ret := (some .int)) (by decide +kernel) rfl (Nat.le_of_ble_eq_true rfl) ?_
  refine v_iload_n 1 rfl dX4_make_0 rfl rfl ?_
  refine v_callS (n := 1) 4 rfl (c_isVariable v) gX4_make_X4_isVariable rfl (by decide +kernel) rfl ⟨(Nat.le_of_ble_eq_true rfl), (Nat.le_of_ble_eq_true rfl)⟩ rfl (Nat.le_of_ble_eq_true rfl) dX4_make_1 ⟨Nat.zero_le _, Nat.zero_le _⟩ ?_
  refine v_st (st' := [.int (bI (bel v (nI 4)))]) rfl ?_
  refine v_if_eqB (b := bel v (nI 4)) 28 7 rfl dX4_make_4 (by decide) (fun c4 => ?_) (fun c4 => ?_)
  · refine v_iconst (v := -1) 29 rfl dX4_make_28 (by decide) ?_
    exact v_iret dX4_make_29 rfl rfl rfl
  · refine v_iload_n 8 rfl dX4_make_7 rfl rfl ?_
    refine v_iconst (v := nI 3) 9 rfl dX4_make_8 (by decide) ?_
    refine v_callS (n := 2) 12 rfl (c_isBelow x (nI 3)) gX4_make_X4_isBelow rfl (by decide +kernel) rfl ⟨(Nat.le_of_ble_eq_true rfl), (Nat.le_of_ble_eq_true rfl)⟩ rfl (Nat.le_of_ble_eq_true rfl) dX4_make_9 ⟨Nat.zero_le _, Nat.zero_le _⟩ ?_
    refine v_st (st' := [.int (bI (bel x (nI 3)))]) rfl ?_
    refine v_if_eqB (b := bel x (nI 3)) 28 15 rfl dX4_make_12 (by decide) (fun c12 => ?_) (fun c12 => ?_)
    · refine v_iconst (v := -1) 29 rfl dX4_make_28 (by decide) ?_
      exact v_iret dX4_make_29 rfl rfl rfl
    · exact absurd h (by simp [*])

set_option maxRecDepth 100000 in
set_option maxHeartbeats 4000000 in
theorem c_call {D : va_G} {cI cZ cJ : ClassId} {l : Launch} {ad : Nat → Nat} {tg : Nat → Int32} {fn : Nat → Int32} {ki : Nat → Int32} {nu : Nat → Int32} {fi : Nat → Int32} {se : Nat → Int32} {ju : Nat → Int32} {op : Nat → Int32} {en : Nat} {sm : Nat} {ob : Nat} {be : Nat → Int32} {af : Nat → Int32} {pl : Int32} {rf : Int32} {rp : Int32} {rs : Nat} {ra : Nat} {rb : Int32} {rl : Nat} (v x : Nat) (hv : v < 4) (hx : x < 4) (hs : sm < 40) (hen : en < 120) : KM D (tyL cI cZ cJ) l yX4_call wsX4_call 2 47 [.ref (ad 0), .int (nI v), .int (nI x)] (wC ad cI cZ tg fn ki nu fi se ju op en sm ob be af pl rf rp rs ra rb rl) (some (.int (nI sm))) (wC ad cI cZ tg fn (upd ki en (nI 1)) (upd nu en (nI sm)) (upd fi en (nI v)) (upd se en (nI x)) ju op (en + 1) (sm + 1) ob be af pl rf rp rs ra rb rl) := by
  refine KM.of (cc := cX4_call) (nL := 3) (ret := (some .int)) (by decide +kernel) rfl (Nat.le_of_ble_eq_true rfl) ?_
  have i4 : ∀ w ∈ u_ws RX4 TX4 4, w ∈ wsX4_call := by decide +kernel
  refine v_iload_n 1 rfl dX4_call_0 rfl rfl ?_
  refine v_callS (n := 1) 4 rfl (c_isVariableT v (by omega)) gX4_call_X4_isVariable rfl (by decide +kernel) rfl ⟨(Nat.le_of_ble_eq_true rfl), (Nat.le_of_ble_eq_true rfl)⟩ rfl (Nat.le_of_ble_eq_true rfl) dX4_call_1 ⟨Nat.zero_le _, Nat.zero_le _⟩ ?_
  refine v_st (st' := [.int (bI true)]) rfl ?_
  refine v_if_eqB (b := true) 28 7 rfl dX4_call_4 (by decide) (fun q => False.elim (by cases q)) (fun c4 => ?_)
  refine v_iload_n 8 rfl dX4_call_7 rfl rfl ?_
  refine v_iconst (v := nI 4) 9 rfl dX4_call_8 (by decide) ?_
  refine v_callS (n := 2) 12 rfl (c_isBelowT x 4 (by omega) (by omega)) gX4_call_X4_isBelow rfl (by decide +kernel) rfl ⟨(Nat.le_of_ble_eq_true rfl), (Nat.le_of_ble_eq_true rfl)⟩ rfl (Nat.le_of_ble_eq_true rfl) dX4_call_9 ⟨Nat.zero_le _, Nat.zero_le _⟩ ?_
  refine v_st (st' := [.int (bI true)]) rfl ?_
  refine v_if_eqB (b := true) 28 15 rfl dX4_call_12 (by decide) (fun q => False.elim (by cases q)) (fun c12 => ?_)
  refine v_aload_n 16 rfl dX4_call_15 rfl rfl ?_
  refine v_get (ci := 4) (C := RX4) (T := TX4) (N := 4) (v := .ref (ad 4)) 19 rfl 0 1 dX4_call_16 rfl (Nat.le_of_ble_eq_true rfl) i4 (by decide +kernel) rfl rfl ?_
  refine v_iconst (v := nI 1) 20 rfl dX4_call_19 (by decide) ?_
  refine v_iload_n 21 rfl dX4_call_20 rfl rfl ?_
  refine v_iload_n 22 rfl dX4_call_21 rfl rfl ?_
  refine v_callF (n := 3) (q0 := 4) (ci := 1) 25 rfl (c_addSimple (nI 1) (nI v) (nI x) hs hen) gX4_call_X1_addSimple rfl (by decide +kernel) rfl ⟨(Nat.le_of_ble_eq_true rfl), (Nat.le_of_ble_eq_true rfl)⟩ rfl (Nat.le_of_ble_eq_true rfl) rfl rfl rfl dX4_call_22 ⟨Nat.zero_le _, Nat.zero_le _⟩ rfl ?_
  refine v_st (st' := [.int (nI sm)]) rfl ?_
  refine v_goto 29 dX4_call_25 (by decide) ?_
  exact v_iret dX4_call_29 rfl rfl rfl

set_option maxRecDepth 100000 in
set_option maxHeartbeats 4000000 in
theorem c_callF {D : va_G} {cI cZ cJ : ClassId} {l : Launch} {ad : Nat → Nat} {tg : Nat → Int32} {fn : Nat → Int32} {ki : Nat → Int32} {nu : Nat → Int32} {fi : Nat → Int32} {se : Nat → Int32} {ju : Nat → Int32} {op : Nat → Int32} {en : Nat} {sm : Nat} {ob : Nat} {be : Nat → Int32} {af : Nat → Int32} {pl : Int32} {rf : Int32} {rp : Int32} {rs : Nat} {ra : Nat} {rb : Int32} {rl : Nat} (v x : Nat) (hv : v < 4) (hx : x < 4) (hs : sm = 40) : KM D (tyL cI cZ cJ) l yX4_call wsX4_call 2 41 [.ref (ad 0), .int (nI v), .int (nI x)] (wC ad cI cZ tg fn ki nu fi se ju op en sm ob be af pl rf rp rs ra rb rl) (some (.int (-1))) (wC ad cI cZ tg fn ki nu fi se ju op en sm ob be af pl rf rp rs ra rb rl) := by
  refine KM.of (cc := cX4_call) (nL := 3) (ret := (some .int)) (by decide +kernel) rfl (Nat.le_of_ble_eq_true rfl) ?_
  have i4 : ∀ w ∈ u_ws RX4 TX4 4, w ∈ wsX4_call := by decide +kernel
  refine v_iload_n 1 rfl dX4_call_0 rfl rfl ?_
  refine v_callS (n := 1) 4 rfl (c_isVariableT v (by omega)) gX4_call_X4_isVariable rfl (by decide +kernel) rfl ⟨(Nat.le_of_ble_eq_true rfl), (Nat.le_of_ble_eq_true rfl)⟩ rfl (Nat.le_of_ble_eq_true rfl) dX4_call_1 ⟨Nat.zero_le _, Nat.zero_le _⟩ ?_
  refine v_st (st' := [.int (bI true)]) rfl ?_
  refine v_if_eqB (b := true) 28 7 rfl dX4_call_4 (by decide) (fun q => False.elim (by cases q)) (fun c4 => ?_)
  refine v_iload_n 8 rfl dX4_call_7 rfl rfl ?_
  refine v_iconst (v := nI 4) 9 rfl dX4_call_8 (by decide) ?_
  refine v_callS (n := 2) 12 rfl (c_isBelowT x 4 (by omega) (by omega)) gX4_call_X4_isBelow rfl (by decide +kernel) rfl ⟨(Nat.le_of_ble_eq_true rfl), (Nat.le_of_ble_eq_true rfl)⟩ rfl (Nat.le_of_ble_eq_true rfl) dX4_call_9 ⟨Nat.zero_le _, Nat.zero_le _⟩ ?_
  refine v_st (st' := [.int (bI true)]) rfl ?_
  refine v_if_eqB (b := true) 28 15 rfl dX4_call_12 (by decide) (fun q => False.elim (by cases q)) (fun c12 => ?_)
  refine v_aload_n 16 rfl dX4_call_15 rfl rfl ?_
  refine v_get (ci := 4) (C := RX4) (T := TX4) (N := 4) (v := .ref (ad 4)) 19 rfl 0 1 dX4_call_16 rfl (Nat.le_of_ble_eq_true rfl) i4 (by decide +kernel) rfl rfl ?_
  refine v_iconst (v := nI 1) 20 rfl dX4_call_19 (by decide) ?_
  refine v_iload_n 21 rfl dX4_call_20 rfl rfl ?_
  refine v_iload_n 22 rfl dX4_call_21 rfl rfl ?_
  refine v_callF (n := 3) (q0 := 4) (ci := 1) 25 rfl (c_addSimpleNo (nI 1) (nI v) (nI x) hs) gX4_call_X1_addSimple rfl (by decide +kernel) rfl ⟨(Nat.le_of_ble_eq_true rfl), (Nat.le_of_ble_eq_true rfl)⟩ rfl (Nat.le_of_ble_eq_true rfl) rfl rfl rfl dX4_call_22 ⟨Nat.zero_le _, Nat.zero_le _⟩ rfl ?_
  refine v_st (st' := [.int (-1)]) rfl ?_
  refine v_goto 29 dX4_call_25 (by decide) ?_
  exact v_iret dX4_call_29 rfl rfl rfl

set_option maxRecDepth 100000 in
set_option maxHeartbeats 4000000 in
theorem c_callNo {D : va_G} {cI cZ cJ : ClassId} {l : Launch} {ad : Nat → Nat} {tg : Nat → Int32} {fn : Nat → Int32} {ki : Nat → Int32} {nu : Nat → Int32} {fi : Nat → Int32} {se : Nat → Int32} {ju : Nat → Int32} {op : Nat → Int32} {en : Nat} {sm : Nat} {ob : Nat} {be : Nat → Int32} {af : Nat → Int32} {pl : Int32} {rf : Int32} {rp : Int32} {rs : Nat} {ra : Nat} {rb : Int32} {rl : Nat} (v x : Int32) (h : (bel v (nI 4) && bel x (nI 4)) = false) : KM D (tyL cI cZ cJ) l yX4_call wsX4_call 2 41 [.ref (ad 0), .int v, .int x] (wC ad cI cZ tg fn ki nu fi se ju op en sm ob be af pl rf rp rs ra rb rl) (some (.int (-1))) (wC ad cI cZ tg fn ki nu fi se ju op en sm ob be af pl rf rp rs ra rb rl) := by
  refine KM.of (cc := cX4_call) (nL := 3) (ret := (some .int)) (by decide +kernel) rfl (Nat.le_of_ble_eq_true rfl) ?_
  refine v_iload_n 1 rfl dX4_call_0 rfl rfl ?_
  refine v_callS (n := 1) 4 rfl (c_isVariable v) gX4_call_X4_isVariable rfl (by decide +kernel) rfl ⟨(Nat.le_of_ble_eq_true rfl), (Nat.le_of_ble_eq_true rfl)⟩ rfl (Nat.le_of_ble_eq_true rfl) dX4_call_1 ⟨Nat.zero_le _, Nat.zero_le _⟩ ?_
  refine v_st (st' := [.int (bI (bel v (nI 4)))]) rfl ?_
  refine v_if_eqB (b := bel v (nI 4)) 28 7 rfl dX4_call_4 (by decide) (fun c4 => ?_) (fun c4 => ?_)
  · refine v_iconst (v := -1) 29 rfl dX4_call_28 (by decide) ?_
    exact v_iret dX4_call_29 rfl rfl rfl
  · refine v_iload_n 8 rfl dX4_call_7 rfl rfl ?_
    refine v_iconst (v := nI 4) 9 rfl dX4_call_8 (by decide) ?_
    refine v_callS (n := 2) 12 rfl (c_isBelow x (nI 4)) gX4_call_X4_isBelow rfl (by decide +kernel) rfl ⟨(Nat.le_of_ble_eq_true rfl), (Nat.le_of_ble_eq_true rfl)⟩ rfl (Nat.le_of_ble_eq_true rfl) dX4_call_9 ⟨Nat.zero_le _, Nat.zero_le _⟩ ?_
    refine v_st (st' := [.int (bI (bel x (nI 4)))]) rfl ?_
    refine v_if_eqB (b := bel x (nI 4)) 28 15 rfl dX4_call_12 (by decide) (fun c12 => ?_) (fun c12 => ?_)
    · refine v_iconst (v := -1) 29 rfl dX4_call_28 (by decide) ?_
      exact v_iret dX4_call_29 rfl rfl rfl
    · exact absurd h (by simp [*])

set_option maxRecDepth 100000 in
set_option maxHeartbeats 4000000 in
theorem c_move {D : va_G} {cI cZ cJ : ClassId} {l : Launch} {ad : Nat → Nat} {tg : Nat → Int32} {fn : Nat → Int32} {ki : Nat → Int32} {nu : Nat → Int32} {fi : Nat → Int32} {se : Nat → Int32} {ju : Nat → Int32} {op : Nat → Int32} {en : Nat} {sm : Nat} {ob : Nat} {be : Nat → Int32} {af : Nat → Int32} {pl : Int32} {rf : Int32} {rp : Int32} {rs : Nat} {ra : Nat} {rb : Int32} {rl : Nat} (v x : Nat) (hv : v < 4) (hx : x < 4) (hs : sm < 40) (hen : en < 120) : KM D (tyL cI cZ cJ) l yX4_move wsX4_move 2 47 [.ref (ad 0), .int (nI v), .int (nI x)] (wC ad cI cZ tg fn ki nu fi se ju op en sm ob be af pl rf rp rs ra rb rl) (some (.int (nI sm))) (wC ad cI cZ tg fn (upd ki en (nI 2)) (upd nu en (nI sm)) (upd fi en (nI v)) (upd se en (nI x)) ju op (en + 1) (sm + 1) ob be af pl rf rp rs ra rb rl) := by
  refine KM.of (cc := cX4_move) (nL := 3) (ret := (some .int)) (by decide +kernel) rfl (Nat.le_of_ble_eq_true rfl) ?_
  have i4 : ∀ w ∈ u_ws RX4 TX4 4, w ∈ wsX4_move := by decide +kernel
  refine v_iload_n 1 rfl dX4_move_0 rfl rfl ?_
  refine v_callS (n := 1) 4 rfl (c_isVariableT v (by omega)) gX4_move_X4_isVariable rfl (by decide +kernel) rfl ⟨(Nat.le_of_ble_eq_true rfl), (Nat.le_of_ble_eq_true rfl)⟩ rfl (Nat.le_of_ble_eq_true rfl) dX4_move_1 ⟨Nat.zero_le _, Nat.zero_le _⟩ ?_
  refine v_st (st' := [.int (bI true)]) rfl ?_
  refine v_if_eqB (b := true) 27 7 rfl dX4_move_4 (by decide) (fun q => False.elim (by cases q)) (fun c4 => ?_)
  refine v_iload_n 8 rfl dX4_move_7 rfl rfl ?_
  refine v_callS (n := 1) 11 rfl (c_isVariableT x (by omega)) gX4_move_X4_isVariable rfl (by decide +kernel) rfl ⟨(Nat.le_of_ble_eq_true rfl), (Nat.le_of_ble_eq_true rfl)⟩ rfl (Nat.le_of_ble_eq_true rfl) dX4_move_8 ⟨Nat.zero_le _, Nat.zero_le _⟩ ?_
  refine v_st (st' := [.int (bI true)]) rfl ?_
  refine v_if_eqB (b := true) 27 14 rfl dX4_move_11 (by decide) (fun q => False.elim (by cases q)) (fun c11 => ?_)
  refine v_aload_n 15 rfl dX4_move_14 rfl rfl ?_
  refine v_get (ci := 4) (C := RX4) (T := TX4) (N := 4) (v := .ref (ad 4)) 18 rfl 0 1 dX4_move_15 rfl (Nat.le_of_ble_eq_true rfl) i4 (by decide +kernel) rfl rfl ?_
  refine v_iconst (v := nI 2) 19 rfl dX4_move_18 (by decide) ?_
  refine v_iload_n 20 rfl dX4_move_19 rfl rfl ?_
  refine v_iload_n 21 rfl dX4_move_20 rfl rfl ?_
  refine v_callF (n := 3) (q0 := 4) (ci := 1) 24 rfl (c_addSimple (nI 2) (nI v) (nI x) hs hen) gX4_move_X1_addSimple rfl (by decide +kernel) rfl ⟨(Nat.le_of_ble_eq_true rfl), (Nat.le_of_ble_eq_true rfl)⟩ rfl (Nat.le_of_ble_eq_true rfl) rfl rfl rfl dX4_move_21 ⟨Nat.zero_le _, Nat.zero_le _⟩ rfl ?_
  refine v_st (st' := [.int (nI sm)]) rfl ?_
  refine v_goto 28 dX4_move_24 (by decide) ?_
  exact v_iret dX4_move_28 rfl rfl rfl

set_option maxRecDepth 100000 in
set_option maxHeartbeats 4000000 in
theorem c_moveF {D : va_G} {cI cZ cJ : ClassId} {l : Launch} {ad : Nat → Nat} {tg : Nat → Int32} {fn : Nat → Int32} {ki : Nat → Int32} {nu : Nat → Int32} {fi : Nat → Int32} {se : Nat → Int32} {ju : Nat → Int32} {op : Nat → Int32} {en : Nat} {sm : Nat} {ob : Nat} {be : Nat → Int32} {af : Nat → Int32} {pl : Int32} {rf : Int32} {rp : Int32} {rs : Nat} {ra : Nat} {rb : Int32} {rl : Nat} (v x : Nat) (hv : v < 4) (hx : x < 4) (hs : sm = 40) : KM D (tyL cI cZ cJ) l yX4_move wsX4_move 2 41 [.ref (ad 0), .int (nI v), .int (nI x)] (wC ad cI cZ tg fn ki nu fi se ju op en sm ob be af pl rf rp rs ra rb rl) (some (.int (-1))) (wC ad cI cZ tg fn ki nu fi se ju op en sm ob be af pl rf rp rs ra rb rl) := by
  refine KM.of (cc := cX4_move) (nL := 3) (ret := (some .int)) (by decide +kernel) rfl (Nat.le_of_ble_eq_true rfl) ?_
  have i4 : ∀ w ∈ u_ws RX4 TX4 4, w ∈ wsX4_move := by decide +kernel
  refine v_iload_n 1 rfl dX4_move_0 rfl rfl ?_
  refine v_callS (n := 1) 4 rfl (c_isVariableT v (by omega)) gX4_move_X4_isVariable rfl (by decide +kernel) rfl ⟨(Nat.le_of_ble_eq_true rfl), (Nat.le_of_ble_eq_true rfl)⟩ rfl (Nat.le_of_ble_eq_true rfl) dX4_move_1 ⟨Nat.zero_le _, Nat.zero_le _⟩ ?_
  refine v_st (st' := [.int (bI true)]) rfl ?_
  refine v_if_eqB (b := true) 27 7 rfl dX4_move_4 (by decide) (fun q => False.elim (by cases q)) (fun c4 => ?_)
  refine v_iload_n 8 rfl dX4_move_7 rfl rfl ?_
  refine v_callS (n := 1) 11 rfl (c_isVariableT x (by omega)) gX4_move_X4_isVariable rfl (by decide +kernel) rfl ⟨(Nat.le_of_ble_eq_true rfl), (Nat.le_of_ble_eq_true rfl)⟩ rfl (Nat.le_of_ble_eq_true rfl) dX4_move_8 ⟨Nat.zero_le _, Nat.zero_le _⟩ ?_
  refine v_st (st' := [.int (bI true)]) rfl ?_
  refine v_if_eqB (b := true) 27 14 rfl dX4_move_11 (by decide) (fun q => False.elim (by cases q)) (fun c11 => ?_)
  refine v_aload_n 15 rfl dX4_move_14 rfl rfl ?_
  refine v_get (ci := 4) (C := RX4) (T := TX4) (N := 4) (v := .ref (ad 4)) 18 rfl 0 1 dX4_move_15 rfl (Nat.le_of_ble_eq_true rfl) i4 (by decide +kernel) rfl rfl ?_
  refine v_iconst (v := nI 2) 19 rfl dX4_move_18 (by decide) ?_
  refine v_iload_n 20 rfl dX4_move_19 rfl rfl ?_
  refine v_iload_n 21 rfl dX4_move_20 rfl rfl ?_
  refine v_callF (n := 3) (q0 := 4) (ci := 1) 24 rfl (c_addSimpleNo (nI 2) (nI v) (nI x) hs) gX4_move_X1_addSimple rfl (by decide +kernel) rfl ⟨(Nat.le_of_ble_eq_true rfl), (Nat.le_of_ble_eq_true rfl)⟩ rfl (Nat.le_of_ble_eq_true rfl) rfl rfl rfl dX4_move_21 ⟨Nat.zero_le _, Nat.zero_le _⟩ rfl ?_
  refine v_st (st' := [.int (-1)]) rfl ?_
  refine v_goto 28 dX4_move_24 (by decide) ?_
  exact v_iret dX4_move_28 rfl rfl rfl

set_option maxRecDepth 100000 in
set_option maxHeartbeats 4000000 in
theorem c_moveNo {D : va_G} {cI cZ cJ : ClassId} {l : Launch} {ad : Nat → Nat} {tg : Nat → Int32} {fn : Nat → Int32} {ki : Nat → Int32} {nu : Nat → Int32} {fi : Nat → Int32} {se : Nat → Int32} {ju : Nat → Int32} {op : Nat → Int32} {en : Nat} {sm : Nat} {ob : Nat} {be : Nat → Int32} {af : Nat → Int32} {pl : Int32} {rf : Int32} {rp : Int32} {rs : Nat} {ra : Nat} {rb : Int32} {rl : Nat} (v x : Int32) (h : (bel v (nI 4) && bel x (nI 4)) = false) : KM D (tyL cI cZ cJ) l yX4_move wsX4_move 2 41 [.ref (ad 0), .int v, .int x] (wC ad cI cZ tg fn ki nu fi se ju op en sm ob be af pl rf rp rs ra rb rl) (some (.int (-1))) (wC ad cI cZ tg fn ki nu fi se ju op en sm ob be af pl rf rp rs ra rb rl) := by
  refine KM.of (cc := cX4_move) (nL := 3) (ret := (some .int)) (by decide +kernel) rfl (Nat.le_of_ble_eq_true rfl) ?_
  refine v_iload_n 1 rfl dX4_move_0 rfl rfl ?_
  refine v_callS (n := 1) 4 rfl (c_isVariable v) gX4_move_X4_isVariable rfl (by decide +kernel) rfl ⟨(Nat.le_of_ble_eq_true rfl), (Nat.le_of_ble_eq_true rfl)⟩ rfl (Nat.le_of_ble_eq_true rfl) dX4_move_1 ⟨Nat.zero_le _, Nat.zero_le _⟩ ?_
  refine v_st (st' := [.int (bI (bel v (nI 4)))]) rfl ?_
  refine v_if_eqB (b := bel v (nI 4)) 27 7 rfl dX4_move_4 (by decide) (fun c4 => ?_) (fun c4 => ?_)
  · refine v_iconst (v := -1) 28 rfl dX4_move_27 (by decide) ?_
    exact v_iret dX4_move_28 rfl rfl rfl
  · refine v_iload_n 8 rfl dX4_move_7 rfl rfl ?_
    refine v_callS (n := 1) 11 rfl (c_isVariable x) gX4_move_X4_isVariable rfl (by decide +kernel) rfl ⟨(Nat.le_of_ble_eq_true rfl), (Nat.le_of_ble_eq_true rfl)⟩ rfl (Nat.le_of_ble_eq_true rfl) dX4_move_8 ⟨Nat.zero_le _, Nat.zero_le _⟩ ?_
    refine v_st (st' := [.int (bI (bel x (nI 4)))]) rfl ?_
    refine v_if_eqB (b := bel x (nI 4)) 27 14 rfl dX4_move_11 (by decide) (fun c11 => ?_) (fun c11 => ?_)
    · refine v_iconst (v := -1) 28 rfl dX4_move_27 (by decide) ?_
      exact v_iret dX4_move_28 rfl rfl rfl
    · exact absurd h (by simp [*])

set_option maxRecDepth 100000 in
set_option maxHeartbeats 4000000 in
theorem c_drop {D : va_G} {cI cZ cJ : ClassId} {l : Launch} {ad : Nat → Nat} {tg : Nat → Int32} {fn : Nat → Int32} {ki : Nat → Int32} {nu : Nat → Int32} {fi : Nat → Int32} {se : Nat → Int32} {ju : Nat → Int32} {op : Nat → Int32} {en : Nat} {sm : Nat} {ob : Nat} {be : Nat → Int32} {af : Nat → Int32} {pl : Int32} {rf : Int32} {rp : Int32} {rs : Nat} {ra : Nat} {rb : Int32} {rl : Nat} (v : Nat) (hv : v < 4) (hs : sm < 40) (hen : en < 120) : KM D (tyL cI cZ cJ) l yX4_drop wsX4_drop 2 47 [.ref (ad 0), .int (nI v)] (wC ad cI cZ tg fn ki nu fi se ju op en sm ob be af pl rf rp rs ra rb rl) (some (.int (nI sm))) (wC ad cI cZ tg fn (upd ki en (nI 3)) (upd nu en (nI sm)) (upd fi en (nI v)) (upd se en (nI 0)) ju op (en + 1) (sm + 1) ob be af pl rf rp rs ra rb rl) := by
  refine KM.of (cc := cX4_drop) (nL := 2) (ret := (some .int)) (by decide +kernel) rfl (Nat.le_of_ble_eq_true rfl) ?_
  have i4 : ∀ w ∈ u_ws RX4 TX4 4, w ∈ wsX4_drop := by decide +kernel
  refine v_iload_n 1 rfl dX4_drop_0 rfl rfl ?_
  refine v_callS (n := 1) 4 rfl (c_isVariableT v (by omega)) gX4_drop_X4_isVariable rfl (by decide +kernel) rfl ⟨(Nat.le_of_ble_eq_true rfl), (Nat.le_of_ble_eq_true rfl)⟩ rfl (Nat.le_of_ble_eq_true rfl) dX4_drop_1 ⟨Nat.zero_le _, Nat.zero_le _⟩ ?_
  refine v_st (st' := [.int (bI true)]) rfl ?_
  refine v_if_eqB (b := true) 20 7 rfl dX4_drop_4 (by decide) (fun q => False.elim (by cases q)) (fun c4 => ?_)
  refine v_aload_n 8 rfl dX4_drop_7 rfl rfl ?_
  refine v_get (ci := 4) (C := RX4) (T := TX4) (N := 4) (v := .ref (ad 4)) 11 rfl 0 1 dX4_drop_8 rfl (Nat.le_of_ble_eq_true rfl) i4 (by decide +kernel) rfl rfl ?_
  refine v_iconst (v := nI 3) 12 rfl dX4_drop_11 (by decide) ?_
  refine v_iload_n 13 rfl dX4_drop_12 rfl rfl ?_
  refine v_iconst (v := nI 0) 14 rfl dX4_drop_13 (by decide) ?_
  refine v_callF (n := 3) (q0 := 4) (ci := 1) 17 rfl (c_addSimple (nI 3) (nI v) (nI 0) hs hen) gX4_drop_X1_addSimple rfl (by decide +kernel) rfl ⟨(Nat.le_of_ble_eq_true rfl), (Nat.le_of_ble_eq_true rfl)⟩ rfl (Nat.le_of_ble_eq_true rfl) rfl rfl rfl dX4_drop_14 ⟨Nat.zero_le _, Nat.zero_le _⟩ rfl ?_
  refine v_st (st' := [.int (nI sm)]) rfl ?_
  refine v_goto 21 dX4_drop_17 (by decide) ?_
  exact v_iret dX4_drop_21 rfl rfl rfl

set_option maxRecDepth 100000 in
set_option maxHeartbeats 4000000 in
theorem c_dropF {D : va_G} {cI cZ cJ : ClassId} {l : Launch} {ad : Nat → Nat} {tg : Nat → Int32} {fn : Nat → Int32} {ki : Nat → Int32} {nu : Nat → Int32} {fi : Nat → Int32} {se : Nat → Int32} {ju : Nat → Int32} {op : Nat → Int32} {en : Nat} {sm : Nat} {ob : Nat} {be : Nat → Int32} {af : Nat → Int32} {pl : Int32} {rf : Int32} {rp : Int32} {rs : Nat} {ra : Nat} {rb : Int32} {rl : Nat} (v : Nat) (hv : v < 4) (hs : sm = 40) : KM D (tyL cI cZ cJ) l yX4_drop wsX4_drop 2 41 [.ref (ad 0), .int (nI v)] (wC ad cI cZ tg fn ki nu fi se ju op en sm ob be af pl rf rp rs ra rb rl) (some (.int (-1))) (wC ad cI cZ tg fn ki nu fi se ju op en sm ob be af pl rf rp rs ra rb rl) := by
  refine KM.of (cc := cX4_drop) (nL := 2) (ret := (some .int)) (by decide +kernel) rfl (Nat.le_of_ble_eq_true rfl) ?_
  have i4 : ∀ w ∈ u_ws RX4 TX4 4, w ∈ wsX4_drop := by decide +kernel
  refine v_iload_n 1 rfl dX4_drop_0 rfl rfl ?_
  refine v_callS (n := 1) 4 rfl (c_isVariableT v (by omega)) gX4_drop_X4_isVariable rfl (by decide +kernel) rfl ⟨(Nat.le_of_ble_eq_true rfl), (Nat.le_of_ble_eq_true rfl)⟩ rfl (Nat.le_of_ble_eq_true rfl) dX4_drop_1 ⟨Nat.zero_le _, Nat.zero_le _⟩ ?_
  refine v_st (st' := [.int (bI true)]) rfl ?_
  refine v_if_eqB (b := true) 20 7 rfl dX4_drop_4 (by decide) (fun q => False.elim (by cases q)) (fun c4 => ?_)
  refine v_aload_n 8 rfl dX4_drop_7 rfl rfl ?_
  refine v_get (ci := 4) (C := RX4) (T := TX4) (N := 4) (v := .ref (ad 4)) 11 rfl 0 1 dX4_drop_8 rfl (Nat.le_of_ble_eq_true rfl) i4 (by decide +kernel) rfl rfl ?_
  refine v_iconst (v := nI 3) 12 rfl dX4_drop_11 (by decide) ?_
  refine v_iload_n 13 rfl dX4_drop_12 rfl rfl ?_
  refine v_iconst (v := nI 0) 14 rfl dX4_drop_13 (by decide) ?_
  refine v_callF (n := 3) (q0 := 4) (ci := 1) 17 rfl (c_addSimpleNo (nI 3) (nI v) (nI 0) hs) gX4_drop_X1_addSimple rfl (by decide +kernel) rfl ⟨(Nat.le_of_ble_eq_true rfl), (Nat.le_of_ble_eq_true rfl)⟩ rfl (Nat.le_of_ble_eq_true rfl) rfl rfl rfl dX4_drop_14 ⟨Nat.zero_le _, Nat.zero_le _⟩ rfl ?_
  refine v_st (st' := [.int (-1)]) rfl ?_
  refine v_goto 21 dX4_drop_17 (by decide) ?_
  exact v_iret dX4_drop_21 rfl rfl rfl

set_option maxRecDepth 100000 in
set_option maxHeartbeats 4000000 in
theorem c_dropNo {D : va_G} {cI cZ cJ : ClassId} {l : Launch} {ad : Nat → Nat} {tg : Nat → Int32} {fn : Nat → Int32} {ki : Nat → Int32} {nu : Nat → Int32} {fi : Nat → Int32} {se : Nat → Int32} {ju : Nat → Int32} {op : Nat → Int32} {en : Nat} {sm : Nat} {ob : Nat} {be : Nat → Int32} {af : Nat → Int32} {pl : Int32} {rf : Int32} {rp : Int32} {rs : Nat} {ra : Nat} {rb : Int32} {rl : Nat} (v : Int32) (h : bel v (nI 4) = false) : KM D (tyL cI cZ cJ) l yX4_drop wsX4_drop 2 41 [.ref (ad 0), .int v] (wC ad cI cZ tg fn ki nu fi se ju op en sm ob be af pl rf rp rs ra rb rl) (some (.int (-1))) (wC ad cI cZ tg fn ki nu fi se ju op en sm ob be af pl rf rp rs ra rb rl) := by
  refine KM.of (cc := cX4_drop) (nL := 2) (ret := (some .int)) (by decide +kernel) rfl (Nat.le_of_ble_eq_true rfl) ?_
  refine v_iload_n 1 rfl dX4_drop_0 rfl rfl ?_
  refine v_callS (n := 1) 4 rfl (c_isVariable v) gX4_drop_X4_isVariable rfl (by decide +kernel) rfl ⟨(Nat.le_of_ble_eq_true rfl), (Nat.le_of_ble_eq_true rfl)⟩ rfl (Nat.le_of_ble_eq_true rfl) dX4_drop_1 ⟨Nat.zero_le _, Nat.zero_le _⟩ ?_
  refine v_st (st' := [.int (bI (bel v (nI 4)))]) rfl ?_
  refine v_if_eqB (b := bel v (nI 4)) 20 7 rfl dX4_drop_4 (by decide) (fun c4 => ?_) (fun q => False.elim (by rw [h] at q; cases q))
  refine v_iconst (v := -1) 21 rfl dX4_drop_20 (by decide) ?_
  exact v_iret dX4_drop_21 rfl rfl rfl

set_option maxRecDepth 100000 in
set_option maxHeartbeats 4000000 in
theorem c_choose {D : va_G} {cI cZ cJ : ClassId} {l : Launch} {ad : Nat → Nat} {tg : Nat → Int32} {fn : Nat → Int32} {ki : Nat → Int32} {nu : Nat → Int32} {fi : Nat → Int32} {se : Nat → Int32} {ju : Nat → Int32} {op : Nat → Int32} {en : Nat} {sm : Nat} {ob : Nat} {be : Nat → Int32} {af : Nat → Int32} {pl : Int32} {rf : Int32} {rp : Int32} {rs : Nat} {ra : Nat} {rb : Int32} {rl : Nat} (hs : sm < 40) (ho : ob < 6) (hen : en < 120) : KM D (tyL cI cZ cJ) l yX4_choose wsX4_choose 2 45 [.ref (ad 0)] (wC ad cI cZ tg fn ki nu fi se ju op en sm ob be af pl rf rp rs ra rb rl) (some (.int (nI sm))) (wC ad cI cZ tg fn (upd ki en (nI 4)) (upd nu en (nI sm)) (upd fi en (nI 0)) (upd se en (nI 0)) ju (upd op ob (nI en)) (en + 1) (sm + 1) (ob + 1) be af pl rf rp rs ra rb rl) := by
  refine KM.of (cc := cX4_choose) (nL := 1) (ret := (some .int)) (by decide +kernel) rfl (Nat.le_of_ble_eq_true rfl) ?_
  have i4 : ∀ w ∈ u_ws RX4 TX4 4, w ∈ wsX4_choose := by decide +kernel
  refine v_aload_n 1 rfl dX4_choose_0 rfl rfl ?_
  refine v_get (ci := 4) (C := RX4) (T := TX4) (N := 4) (v := .ref (ad 4)) 4 rfl 0 1 dX4_choose_1 rfl (Nat.le_of_ble_eq_true rfl) i4 (by decide +kernel) rfl rfl ?_
  refine v_iconst (v := nI 4) 5 rfl dX4_choose_4 (by decide) ?_
  refine v_callF (n := 1) (q0 := 4) (ci := 1) 8 rfl (c_addOpening (nI 4) hs ho hen) gX4_choose_X1_addOpening rfl (by decide +kernel) rfl ⟨(Nat.le_of_ble_eq_true rfl), (Nat.le_of_ble_eq_true rfl)⟩ rfl (Nat.le_of_ble_eq_true rfl) rfl rfl rfl dX4_choose_5 ⟨Nat.zero_le _, Nat.zero_le _⟩ rfl ?_
  refine v_st (st' := [.int (nI sm)]) rfl ?_
  exact v_iret dX4_choose_8 rfl rfl rfl

set_option maxRecDepth 100000 in
set_option maxHeartbeats 4000000 in
theorem c_chooseNo {D : va_G} {cI cZ cJ : ClassId} {l : Launch} {ad : Nat → Nat} {tg : Nat → Int32} {fn : Nat → Int32} {ki : Nat → Int32} {nu : Nat → Int32} {fi : Nat → Int32} {se : Nat → Int32} {ju : Nat → Int32} {op : Nat → Int32} {en : Nat} {sm : Nat} {ob : Nat} {be : Nat → Int32} {af : Nat → Int32} {pl : Int32} {rf : Int32} {rp : Int32} {rs : Nat} {ra : Nat} {rb : Int32} {rl : Nat} (hs : sm ≤ 40) (ho : ob ≤ 6) (h : sm = 40 ∨ ob = 6) : KM D (tyL cI cZ cJ) l yX4_choose wsX4_choose 1 21 [.ref (ad 0)] (wC ad cI cZ tg fn ki nu fi se ju op en sm ob be af pl rf rp rs ra rb rl) (some (.int (-1))) (wC ad cI cZ tg fn ki nu fi se ju op en sm ob be af pl rf rp rs ra rb rl) := by
  refine KM.of (cc := cX4_choose) (nL := 1) (ret := (some .int)) (by decide +kernel) rfl (Nat.le_of_ble_eq_true rfl) ?_
  have i4 : ∀ w ∈ u_ws RX4 TX4 4, w ∈ wsX4_choose := by decide +kernel
  refine v_aload_n 1 rfl dX4_choose_0 rfl rfl ?_
  refine v_get (ci := 4) (C := RX4) (T := TX4) (N := 4) (v := .ref (ad 4)) 4 rfl 0 1 dX4_choose_1 rfl (Nat.le_of_ble_eq_true rfl) i4 (by decide +kernel) rfl rfl ?_
  refine v_iconst (v := nI 4) 5 rfl dX4_choose_4 (by decide) ?_
  refine v_callF (n := 1) (q0 := 4) (ci := 1) 8 rfl (c_addOpeningNo (nI 4) hs ho h) gX4_choose_X1_addOpening rfl (by decide +kernel) rfl ⟨(Nat.le_of_ble_eq_true rfl), (Nat.le_of_ble_eq_true rfl)⟩ rfl (Nat.le_of_ble_eq_true rfl) rfl rfl rfl dX4_choose_5 ⟨Nat.zero_le _, Nat.zero_le _⟩ rfl ?_
  refine v_st (st' := [.int (-1)]) rfl ?_
  exact v_iret dX4_choose_8 rfl rfl rfl

set_option maxRecDepth 100000 in
set_option maxHeartbeats 4000000 in
theorem c_repeat {D : va_G} {cI cZ cJ : ClassId} {l : Launch} {ad : Nat → Nat} {tg : Nat → Int32} {fn : Nat → Int32} {ki : Nat → Int32} {nu : Nat → Int32} {fi : Nat → Int32} {se : Nat → Int32} {ju : Nat → Int32} {op : Nat → Int32} {en : Nat} {sm : Nat} {ob : Nat} {be : Nat → Int32} {af : Nat → Int32} {pl : Int32} {rf : Int32} {rp : Int32} {rs : Nat} {ra : Nat} {rb : Int32} {rl : Nat} (hs : sm < 40) (ho : ob < 6) (hen : en < 120) : KM D (tyL cI cZ cJ) l yX4_repeat wsX4_repeat 2 45 [.ref (ad 0)] (wC ad cI cZ tg fn ki nu fi se ju op en sm ob be af pl rf rp rs ra rb rl) (some (.int (nI sm))) (wC ad cI cZ tg fn (upd ki en (nI 7)) (upd nu en (nI sm)) (upd fi en (nI 0)) (upd se en (nI 0)) ju (upd op ob (nI en)) (en + 1) (sm + 1) (ob + 1) be af pl rf rp rs ra rb rl) := by
  refine KM.of (cc := cX4_repeat) (nL := 1) (ret := (some .int)) (by decide +kernel) rfl (Nat.le_of_ble_eq_true rfl) ?_
  have i4 : ∀ w ∈ u_ws RX4 TX4 4, w ∈ wsX4_repeat := by decide +kernel
  refine v_aload_n 1 rfl dX4_repeat_0 rfl rfl ?_
  refine v_get (ci := 4) (C := RX4) (T := TX4) (N := 4) (v := .ref (ad 4)) 4 rfl 0 1 dX4_repeat_1 rfl (Nat.le_of_ble_eq_true rfl) i4 (by decide +kernel) rfl rfl ?_
  refine v_bipush (v := nI 7) 6 rfl dX4_repeat_4 (by decide) ?_
  refine v_callF (n := 1) (q0 := 4) (ci := 1) 9 rfl (c_addOpening (nI 7) hs ho hen) gX4_repeat_X1_addOpening rfl (by decide +kernel) rfl ⟨(Nat.le_of_ble_eq_true rfl), (Nat.le_of_ble_eq_true rfl)⟩ rfl (Nat.le_of_ble_eq_true rfl) rfl rfl rfl dX4_repeat_6 ⟨Nat.zero_le _, Nat.zero_le _⟩ rfl ?_
  refine v_st (st' := [.int (nI sm)]) rfl ?_
  exact v_iret dX4_repeat_9 rfl rfl rfl

set_option maxRecDepth 100000 in
set_option maxHeartbeats 4000000 in
theorem c_repeatNo {D : va_G} {cI cZ cJ : ClassId} {l : Launch} {ad : Nat → Nat} {tg : Nat → Int32} {fn : Nat → Int32} {ki : Nat → Int32} {nu : Nat → Int32} {fi : Nat → Int32} {se : Nat → Int32} {ju : Nat → Int32} {op : Nat → Int32} {en : Nat} {sm : Nat} {ob : Nat} {be : Nat → Int32} {af : Nat → Int32} {pl : Int32} {rf : Int32} {rp : Int32} {rs : Nat} {ra : Nat} {rb : Int32} {rl : Nat} (hs : sm ≤ 40) (ho : ob ≤ 6) (h : sm = 40 ∨ ob = 6) : KM D (tyL cI cZ cJ) l yX4_repeat wsX4_repeat 1 21 [.ref (ad 0)] (wC ad cI cZ tg fn ki nu fi se ju op en sm ob be af pl rf rp rs ra rb rl) (some (.int (-1))) (wC ad cI cZ tg fn ki nu fi se ju op en sm ob be af pl rf rp rs ra rb rl) := by
  refine KM.of (cc := cX4_repeat) (nL := 1) (ret := (some .int)) (by decide +kernel) rfl (Nat.le_of_ble_eq_true rfl) ?_
  have i4 : ∀ w ∈ u_ws RX4 TX4 4, w ∈ wsX4_repeat := by decide +kernel
  refine v_aload_n 1 rfl dX4_repeat_0 rfl rfl ?_
  refine v_get (ci := 4) (C := RX4) (T := TX4) (N := 4) (v := .ref (ad 4)) 4 rfl 0 1 dX4_repeat_1 rfl (Nat.le_of_ble_eq_true rfl) i4 (by decide +kernel) rfl rfl ?_
  refine v_bipush (v := nI 7) 6 rfl dX4_repeat_4 (by decide) ?_
  refine v_callF (n := 1) (q0 := 4) (ci := 1) 9 rfl (c_addOpeningNo (nI 7) hs ho h) gX4_repeat_X1_addOpening rfl (by decide +kernel) rfl ⟨(Nat.le_of_ble_eq_true rfl), (Nat.le_of_ble_eq_true rfl)⟩ rfl (Nat.le_of_ble_eq_true rfl) rfl rfl rfl dX4_repeat_6 ⟨Nat.zero_le _, Nat.zero_le _⟩ rfl ?_
  refine v_st (st' := [.int (-1)]) rfl ?_
  exact v_iret dX4_repeat_9 rfl rfl rfl

set_option maxRecDepth 100000 in
set_option maxHeartbeats 4000000 in
theorem c_otherwise {D : va_G} {cI cZ cJ : ClassId} {l : Launch} {ad : Nat → Nat} {tg : Nat → Int32} {fn : Nat → Int32} {ki : Nat → Int32} {nu : Nat → Int32} {fi : Nat → Int32} {se : Nat → Int32} {ju : Nat → Int32} {op : Nat → Int32} {en : Nat} {sm : Nat} {ob : Nat} {be : Nat → Int32} {af : Nat → Int32} {pl : Int32} {rf : Int32} {rp : Int32} {rs : Nat} {ra : Nat} {rb : Int32} {rl : Nat} (b : Nat) (n : Int32) (h0 : 0 < ob) (ho : ob ≤ 6) (hb : op (ob - 1) = nI b) (hbe : b < en) (hen : en < 120) (hk : ki b = nI 4) (hn : nu b = n) : KM D (tyL cI cZ cJ) l yX4_otherwise wsX4_otherwise 3 63 [.ref (ad 0)] (wC ad cI cZ tg fn ki nu fi se ju op en sm ob be af pl rf rp rs ra rb rl) (some (.int (bI true))) (wC ad cI cZ tg fn (upd ki en (nI 5)) (upd nu en n) (upd fi en (nI 0)) (upd se en (nI 0)) (upd ju b (nI (en + 1))) (upd op (ob - 1) (nI en)) (en + 1) sm ob be af pl rf rp rs ra rb rl) := by
  refine KM.of (cc := cX4_otherwise) (nL := 1) (ret := (some .boolean)) (by decide +kernel) rfl (Nat.le_of_ble_eq_true rfl) ?_
  have i4 : ∀ w ∈ u_ws RX4 TX4 4, w ∈ wsX4_otherwise := by decide +kernel
  refine v_aload_n 1 rfl dX4_otherwise_0 rfl rfl ?_
  refine v_get (ci := 4) (C := RX4) (T := TX4) (N := 4) (v := .ref (ad 4)) 4 rfl 0 1 dX4_otherwise_1 rfl (Nat.le_of_ble_eq_true rfl) i4 (by decide +kernel) rfl rfl ?_
  refine v_callF (n := 0) (q0 := 4) (ci := 1) 7 rfl (c_beginElse b n h0 ho hb hbe hen hk hn) gX4_otherwise_X1_beginElse rfl (by decide +kernel) rfl ⟨(Nat.le_of_ble_eq_true rfl), (Nat.le_of_ble_eq_true rfl)⟩ rfl (Nat.le_of_ble_eq_true rfl) rfl rfl rfl dX4_otherwise_4 ⟨Nat.zero_le _, Nat.zero_le _⟩ rfl ?_
  refine v_st (st' := [.int (bI true)]) rfl ?_
  exact v_zret dX4_otherwise_7 rfl rfl rfl

set_option maxRecDepth 100000 in
set_option maxHeartbeats 4000000 in
theorem c_otherwise0 {D : va_G} {cI cZ cJ : ClassId} {l : Launch} {ad : Nat → Nat} {tg : Nat → Int32} {fn : Nat → Int32} {ki : Nat → Int32} {nu : Nat → Int32} {fi : Nat → Int32} {se : Nat → Int32} {ju : Nat → Int32} {op : Nat → Int32} {en : Nat} {sm : Nat} {ob : Nat} {be : Nat → Int32} {af : Nat → Int32} {pl : Int32} {rf : Int32} {rp : Int32} {rs : Nat} {ra : Nat} {rb : Int32} {rl : Nat} (h0 : ob = 0) : KM D (tyL cI cZ cJ) l yX4_otherwise wsX4_otherwise 3 63 [.ref (ad 0)] (wC ad cI cZ tg fn ki nu fi se ju op en sm ob be af pl rf rp rs ra rb rl) (some (.int (bI false))) (wC ad cI cZ tg fn ki nu fi se ju op en sm ob be af pl rf rp rs ra rb rl) := by
  refine KM.of (cc := cX4_otherwise) (nL := 1) (ret := (some .boolean)) (by decide +kernel) rfl (Nat.le_of_ble_eq_true rfl) ?_
  have i4 : ∀ w ∈ u_ws RX4 TX4 4, w ∈ wsX4_otherwise := by decide +kernel
  refine v_aload_n 1 rfl dX4_otherwise_0 rfl rfl ?_
  refine v_get (ci := 4) (C := RX4) (T := TX4) (N := 4) (v := .ref (ad 4)) 4 rfl 0 1 dX4_otherwise_1 rfl (Nat.le_of_ble_eq_true rfl) i4 (by decide +kernel) rfl rfl ?_
  refine v_callF (n := 0) (q0 := 4) (ci := 1) 7 rfl (c_beginElse0 h0) gX4_otherwise_X1_beginElse rfl (by decide +kernel) rfl ⟨(Nat.le_of_ble_eq_true rfl), (Nat.le_of_ble_eq_true rfl)⟩ rfl (Nat.le_of_ble_eq_true rfl) rfl rfl rfl dX4_otherwise_4 ⟨Nat.zero_le _, Nat.zero_le _⟩ rfl ?_
  refine v_st (st' := [.int (bI false)]) rfl ?_
  exact v_zret dX4_otherwise_7 rfl rfl rfl

set_option maxRecDepth 100000 in
set_option maxHeartbeats 4000000 in
theorem c_otherwiseNo {D : va_G} {cI cZ cJ : ClassId} {l : Launch} {ad : Nat → Nat} {tg : Nat → Int32} {fn : Nat → Int32} {ki : Nat → Int32} {nu : Nat → Int32} {fi : Nat → Int32} {se : Nat → Int32} {ju : Nat → Int32} {op : Nat → Int32} {en : Nat} {sm : Nat} {ob : Nat} {be : Nat → Int32} {af : Nat → Int32} {pl : Int32} {rf : Int32} {rp : Int32} {rs : Nat} {ra : Nat} {rb : Int32} {rl : Nat} (b d : Nat) (h0 : 0 < ob) (ho : ob ≤ 6) (hb : op (ob - 1) = nI b) (hbe : b < en) (hen : en ≤ 120) (hk : ki b = nI d) (hd : d < 9) (hd4 : d ≠ 4) : KM D (tyL cI cZ cJ) l yX4_otherwise wsX4_otherwise 3 63 [.ref (ad 0)] (wC ad cI cZ tg fn ki nu fi se ju op en sm ob be af pl rf rp rs ra rb rl) (some (.int (bI false))) (wC ad cI cZ tg fn ki nu fi se ju op en sm ob be af pl rf rp rs ra rb rl) := by
  refine KM.of (cc := cX4_otherwise) (nL := 1) (ret := (some .boolean)) (by decide +kernel) rfl (Nat.le_of_ble_eq_true rfl) ?_
  have i4 : ∀ w ∈ u_ws RX4 TX4 4, w ∈ wsX4_otherwise := by decide +kernel
  refine v_aload_n 1 rfl dX4_otherwise_0 rfl rfl ?_
  refine v_get (ci := 4) (C := RX4) (T := TX4) (N := 4) (v := .ref (ad 4)) 4 rfl 0 1 dX4_otherwise_1 rfl (Nat.le_of_ble_eq_true rfl) i4 (by decide +kernel) rfl rfl ?_
  refine v_callF (n := 0) (q0 := 4) (ci := 1) 7 rfl (c_beginElseNo b d h0 ho hb hbe hen hk hd hd4) gX4_otherwise_X1_beginElse rfl (by decide +kernel) rfl ⟨(Nat.le_of_ble_eq_true rfl), (Nat.le_of_ble_eq_true rfl)⟩ rfl (Nat.le_of_ble_eq_true rfl) rfl rfl rfl dX4_otherwise_4 ⟨Nat.zero_le _, Nat.zero_le _⟩ rfl ?_
  refine v_st (st' := [.int (bI false)]) rfl ?_
  exact v_zret dX4_otherwise_7 rfl rfl rfl

set_option maxRecDepth 100000 in
set_option maxHeartbeats 4000000 in
theorem c_end0 {D : va_G} {cI cZ cJ : ClassId} {l : Launch} {ad : Nat → Nat} {tg : Nat → Int32} {fn : Nat → Int32} {ki : Nat → Int32} {nu : Nat → Int32} {fi : Nat → Int32} {se : Nat → Int32} {ju : Nat → Int32} {op : Nat → Int32} {en : Nat} {sm : Nat} {ob : Nat} {be : Nat → Int32} {af : Nat → Int32} {pl : Int32} {rf : Int32} {rp : Int32} {rs : Nat} {ra : Nat} {rb : Int32} {rl : Nat} (h0 : ob = 0) : KM D (tyL cI cZ cJ) l yX4_end wsX4_end 4 85 [.ref (ad 0)] (wC ad cI cZ tg fn ki nu fi se ju op en sm ob be af pl rf rp rs ra rb rl) (some (.int (bI false))) (wC ad cI cZ tg fn ki nu fi se ju op en sm ob be af pl rf rp rs ra rb rl) := by
  refine KM.of (cc := cX4_end) (nL := 1) (ret := (some .boolean)) (by decide +kernel) rfl (Nat.le_of_ble_eq_true rfl) ?_
  have i4 : ∀ w ∈ u_ws RX4 TX4 4, w ∈ wsX4_end := by decide +kernel
  refine v_aload_n 1 rfl dX4_end_0 rfl rfl ?_
  refine v_get (ci := 4) (C := RX4) (T := TX4) (N := 4) (v := .ref (ad 4)) 4 rfl 0 1 dX4_end_1 rfl (Nat.le_of_ble_eq_true rfl) i4 (by decide +kernel) rfl rfl ?_
  refine v_callF (n := 0) (q0 := 4) (ci := 1) 7 rfl (c_endBlock0 h0) gX4_end_X1_endBlock rfl (by decide +kernel) rfl ⟨(Nat.le_of_ble_eq_true rfl), (Nat.le_of_ble_eq_true rfl)⟩ rfl (Nat.le_of_ble_eq_true rfl) rfl rfl rfl dX4_end_4 ⟨Nat.zero_le _, Nat.zero_le _⟩ rfl ?_
  refine v_st (st' := [.int (bI false)]) rfl ?_
  exact v_zret dX4_end_7 rfl rfl rfl

set_option maxRecDepth 100000 in
set_option maxHeartbeats 4000000 in
theorem c_endW {D : va_G} {cI cZ cJ : ClassId} {l : Launch} {ad : Nat → Nat} {tg : Nat → Int32} {fn : Nat → Int32} {ki : Nat → Int32} {nu : Nat → Int32} {fi : Nat → Int32} {se : Nat → Int32} {ju : Nat → Int32} {op : Nat → Int32} {en : Nat} {sm : Nat} {ob : Nat} {be : Nat → Int32} {af : Nat → Int32} {pl : Int32} {rf : Int32} {rp : Int32} {rs : Nat} {ra : Nat} {rb : Int32} {rl : Nat} (b : Nat) (n : Int32) (h0 : 0 < ob) (ho : ob ≤ 6) (hb : op (ob - 1) = nI b) (hbe : b < en) (hen : en < 120) (hk : ki b = nI 7) (hn : nu b = n) : KM D (tyL cI cZ cJ) l yX4_end wsX4_end 4 85 [.ref (ad 0)] (wC ad cI cZ tg fn ki nu fi se ju op en sm ob be af pl rf rp rs ra rb rl) (some (.int (bI true))) (wC ad cI cZ tg fn (upd ki en (nI 8)) (upd nu en n) (upd fi en (nI 0)) (upd se en (nI 0)) (upd (upd ju b (nI (en + 1))) en (nI b)) op (en + 1) sm (ob - 1) be af pl rf rp rs ra rb rl) := by
  refine KM.of (cc := cX4_end) (nL := 1) (ret := (some .boolean)) (by decide +kernel) rfl (Nat.le_of_ble_eq_true rfl) ?_
  have i4 : ∀ w ∈ u_ws RX4 TX4 4, w ∈ wsX4_end := by decide +kernel
  refine v_aload_n 1 rfl dX4_end_0 rfl rfl ?_
  refine v_get (ci := 4) (C := RX4) (T := TX4) (N := 4) (v := .ref (ad 4)) 4 rfl 0 1 dX4_end_1 rfl (Nat.le_of_ble_eq_true rfl) i4 (by decide +kernel) rfl rfl ?_
  refine v_callF (n := 0) (q0 := 4) (ci := 1) 7 rfl (c_endBlockW b n h0 ho hb hbe hen hk hn) gX4_end_X1_endBlock rfl (by decide +kernel) rfl ⟨(Nat.le_of_ble_eq_true rfl), (Nat.le_of_ble_eq_true rfl)⟩ rfl (Nat.le_of_ble_eq_true rfl) rfl rfl rfl dX4_end_4 ⟨Nat.zero_le _, Nat.zero_le _⟩ rfl ?_
  refine v_st (st' := [.int (bI true)]) rfl ?_
  exact v_zret dX4_end_7 rfl rfl rfl

set_option maxRecDepth 100000 in
set_option maxHeartbeats 4000000 in
theorem c_endE {D : va_G} {cI cZ cJ : ClassId} {l : Launch} {ad : Nat → Nat} {tg : Nat → Int32} {fn : Nat → Int32} {ki : Nat → Int32} {nu : Nat → Int32} {fi : Nat → Int32} {se : Nat → Int32} {ju : Nat → Int32} {op : Nat → Int32} {en : Nat} {sm : Nat} {ob : Nat} {be : Nat → Int32} {af : Nat → Int32} {pl : Int32} {rf : Int32} {rp : Int32} {rs : Nat} {ra : Nat} {rb : Int32} {rl : Nat} (b : Nat) (n : Int32) (h0 : 0 < ob) (ho : ob ≤ 6) (hb : op (ob - 1) = nI b) (hbe : b < en) (hen : en < 120) (hk : ki b = nI 5) (hn : nu b = n) : KM D (tyL cI cZ cJ) l yX4_end wsX4_end 4 85 [.ref (ad 0)] (wC ad cI cZ tg fn ki nu fi se ju op en sm ob be af pl rf rp rs ra rb rl) (some (.int (bI true))) (wC ad cI cZ tg fn (upd ki en (nI 6)) (upd nu en n) (upd fi en (nI 0)) (upd se en (nI 0)) (upd ju b (nI (en + 1))) op (en + 1) sm (ob - 1) be af pl rf rp rs ra rb rl) := by
  refine KM.of (cc := cX4_end) (nL := 1) (ret := (some .boolean)) (by decide +kernel) rfl (Nat.le_of_ble_eq_true rfl) ?_
  have i4 : ∀ w ∈ u_ws RX4 TX4 4, w ∈ wsX4_end := by decide +kernel
  refine v_aload_n 1 rfl dX4_end_0 rfl rfl ?_
  refine v_get (ci := 4) (C := RX4) (T := TX4) (N := 4) (v := .ref (ad 4)) 4 rfl 0 1 dX4_end_1 rfl (Nat.le_of_ble_eq_true rfl) i4 (by decide +kernel) rfl rfl ?_
  refine v_callF (n := 0) (q0 := 4) (ci := 1) 7 rfl (c_endBlockE b n h0 ho hb hbe hen hk hn) gX4_end_X1_endBlock rfl (by decide +kernel) rfl ⟨(Nat.le_of_ble_eq_true rfl), (Nat.le_of_ble_eq_true rfl)⟩ rfl (Nat.le_of_ble_eq_true rfl) rfl rfl rfl dX4_end_4 ⟨Nat.zero_le _, Nat.zero_le _⟩ rfl ?_
  refine v_st (st' := [.int (bI true)]) rfl ?_
  exact v_zret dX4_end_7 rfl rfl rfl

set_option maxRecDepth 100000 in
set_option maxHeartbeats 4000000 in
theorem c_endI {D : va_G} {cI cZ cJ : ClassId} {l : Launch} {ad : Nat → Nat} {tg : Nat → Int32} {fn : Nat → Int32} {ki : Nat → Int32} {nu : Nat → Int32} {fi : Nat → Int32} {se : Nat → Int32} {ju : Nat → Int32} {op : Nat → Int32} {en : Nat} {sm : Nat} {ob : Nat} {be : Nat → Int32} {af : Nat → Int32} {pl : Int32} {rf : Int32} {rp : Int32} {rs : Nat} {ra : Nat} {rb : Int32} {rl : Nat} (b : Nat) (n : Int32) (h0 : 0 < ob) (ho : ob ≤ 6) (hb : op (ob - 1) = nI b) (hbe : b < en) (hen : en + 1 < 120) (hk : ki b = nI 4) (hn : nu b = n) : KM D (tyL cI cZ cJ) l yX4_end wsX4_end 4 85 [.ref (ad 0)] (wC ad cI cZ tg fn ki nu fi se ju op en sm ob be af pl rf rp rs ra rb rl) (some (.int (bI true))) (wC ad cI cZ tg fn (upd (upd ki en (nI 5)) (en + 1) (nI 6)) (upd (upd nu en n) (en + 1) n) (upd (upd fi en (nI 0)) (en + 1) (nI 0)) (upd (upd se en (nI 0)) (en + 1) (nI 0)) (upd (upd ju b (nI (en + 1))) en (nI (en + 1 + 1))) (upd op (ob - 1) (nI en)) (en + 1 + 1) sm (ob - 1) be af pl rf rp rs ra rb rl) := by
  refine KM.of (cc := cX4_end) (nL := 1) (ret := (some .boolean)) (by decide +kernel) rfl (Nat.le_of_ble_eq_true rfl) ?_
  have i4 : ∀ w ∈ u_ws RX4 TX4 4, w ∈ wsX4_end := by decide +kernel
  refine v_aload_n 1 rfl dX4_end_0 rfl rfl ?_
  refine v_get (ci := 4) (C := RX4) (T := TX4) (N := 4) (v := .ref (ad 4)) 4 rfl 0 1 dX4_end_1 rfl (Nat.le_of_ble_eq_true rfl) i4 (by decide +kernel) rfl rfl ?_
  refine v_callF (n := 0) (q0 := 4) (ci := 1) 7 rfl (c_endBlockI b n h0 ho hb hbe hen hk hn) gX4_end_X1_endBlock rfl (by decide +kernel) rfl ⟨(Nat.le_of_ble_eq_true rfl), (Nat.le_of_ble_eq_true rfl)⟩ rfl (Nat.le_of_ble_eq_true rfl) rfl rfl rfl dX4_end_4 ⟨Nat.zero_le _, Nat.zero_le _⟩ rfl ?_
  refine v_st (st' := [.int (bI true)]) rfl ?_
  exact v_zret dX4_end_7 rfl rfl rfl

set_option maxRecDepth 100000 in
set_option maxHeartbeats 4000000 in
theorem c_clear {D : va_G} {cI cZ cJ : ClassId} {l : Launch} {ad : Nat → Nat} {tg : Nat → Int32} {fn : Nat → Int32} {ki : Nat → Int32} {nu : Nat → Int32} {fi : Nat → Int32} {se : Nat → Int32} {ju : Nat → Int32} {op : Nat → Int32} {en : Nat} {sm : Nat} {ob : Nat} {be : Nat → Int32} {af : Nat → Int32} {pl : Int32} {rf : Int32} {rp : Int32} {rs : Nat} {ra : Nat} {rb : Int32} {rl : Nat}  : KM D (tyL cI cZ cJ) l yX4_clear wsX4_clear 1 20 [.ref (ad 0)] (wC ad cI cZ tg fn ki nu fi se ju op en sm ob be af pl rf rp rs ra rb rl) none (wC ad cI cZ tg fn ki nu fi se ju op 0 0 0 be af pl rf rp rs ra rb rl) := by
  refine KM.of (cc := cX4_clear) (nL := 1) (ret := none) (by decide +kernel) rfl (Nat.le_of_ble_eq_true rfl) ?_
  have i4 : ∀ w ∈ u_ws RX4 TX4 4, w ∈ wsX4_clear := by decide +kernel
  refine v_aload_n 1 rfl dX4_clear_0 rfl rfl ?_
  refine v_get (ci := 4) (C := RX4) (T := TX4) (N := 4) (v := .ref (ad 4)) 4 rfl 0 1 dX4_clear_1 rfl (Nat.le_of_ble_eq_true rfl) i4 (by decide +kernel) rfl rfl ?_
  refine v_callF (n := 0) (q0 := 4) (ci := 1) 7 rfl (c_removeAll) gX4_clear_X1_removeAll rfl (by decide +kernel) rfl ⟨(Nat.le_of_ble_eq_true rfl), (Nat.le_of_ble_eq_true rfl)⟩ rfl (Nat.le_of_ble_eq_true rfl) rfl rfl rfl dX4_clear_4 ⟨Nat.zero_le _, Nat.zero_le _⟩ rfl ?_
  refine v_st (st' := []) rfl ?_
  exact v_vret dX4_clear_7 rfl rfl rfl

set_option maxRecDepth 100000 in
set_option maxHeartbeats 4000000 in
theorem c_size {D : va_G} {cI cZ cJ : ClassId} {l : Launch} {ad : Nat → Nat} {tg : Nat → Int32} {fn : Nat → Int32} {ki : Nat → Int32} {nu : Nat → Int32} {fi : Nat → Int32} {se : Nat → Int32} {ju : Nat → Int32} {op : Nat → Int32} {en : Nat} {sm : Nat} {ob : Nat} {be : Nat → Int32} {af : Nat → Int32} {pl : Int32} {rf : Int32} {rp : Int32} {rs : Nat} {ra : Nat} {rb : Int32} {rl : Nat}  : KM D (tyL cI cZ cJ) l yX4_size wsX4_size 0 0 [.ref (ad 0)] (wC ad cI cZ tg fn ki nu fi se ju op en sm ob be af pl rf rp rs ra rb rl) (some (.int (nI sm))) (wC ad cI cZ tg fn ki nu fi se ju op en sm ob be af pl rf rp rs ra rb rl) := by
  refine KM.of (cc := cX4_size) (nL := 1) (ret := (some .int)) (by decide +kernel) rfl (Nat.le_of_ble_eq_true rfl) ?_
  have i1 : ∀ w ∈ u_ws RX1 TX1 9, w ∈ wsX4_size := by decide +kernel
  have i4 : ∀ w ∈ u_ws RX4 TX4 4, w ∈ wsX4_size := by decide +kernel
  refine v_aload_n 1 rfl dX4_size_0 rfl rfl ?_
  refine v_get (ci := 4) (C := RX4) (T := TX4) (N := 4) (v := .ref (ad 4)) 4 rfl 0 1 dX4_size_1 rfl (Nat.le_of_ble_eq_true rfl) i4 (by decide +kernel) rfl rfl ?_
  refine v_getN (ci := 1) (C := RX1) (T := TX1) (N := 9) (v := .int (nI sm)) 7 rfl 4 7 dX4_size_4 rfl (Nat.le_of_ble_eq_true rfl) i1 (by decide +kernel) rfl rfl ?_
  exact v_iret dX4_size_7 rfl rfl rfl

set_option maxRecDepth 100000 in
set_option maxHeartbeats 4000000 in
theorem c_check {D : va_G} {cI cZ cJ : ClassId} {l : Launch} {ad : Nat → Nat} {tg : Nat → Int32} {fn : Nat → Int32} {ki : Nat → Int32} {nu : Nat → Int32} {fi : Nat → Int32} {se : Nat → Int32} {ju : Nat → Int32} {op : Nat → Int32} {en : Nat} {sm : Nat} {ob : Nat} {be : Nat → Int32} {af : Nat → Int32} {pl : Int32} {rf : Int32} {rp : Int32} {rs : Nat} {ra : Nat} {rb : Int32} {rl : Nat} (tn : Nat → Nat) (fb : Nat → Bool) (J : Nat → Nat → (Nat → Int32) → (Nat → Int32) → Prop) (htg : ∀ i, i < 96 → tg i = oI (tn i) ∧ tn i ≤ 5) (hfn : ∀ o, o < 24 → fn o = bI (fb o)) (hen : en ≤ 120) (hJ : ∀ t A be af, t < en → J t A be af → Saf ki nu fi se t A be af ∧ ((cstA tn fb ki nu fi se t A be af).1 = 0 → J (t + 1) (cstA tn fb ki nu fi se t A be af).2.1 (cstA tn fb ki nu fi se t A be af).2.2.1 (cstA tn fb ki nu fi se t A be af).2.2.2)) (hJe : ∀ t A be af, J t A be af → A < 2 ^ 20 ∧ ∀ v, v < 4 → hb A v ≤ 24) (hob : ob = 0) (hJ0 : J 0 0 (fillF be 40 (-1)) af) : KM D (tyL cI cZ cJ) l yX4_check wsX4_check 5 116 [.ref (ad 0)] (wC ad cI cZ tg fn ki nu fi se ju op en sm ob be af pl rf rp rs ra rb rl) (some (.int (nI (crun tn fb ki nu fi se sm en 0 0 (fillF be 40 (-1)) af).1))) (wC ad cI cZ tg fn ki nu fi se ju op en sm ob ((crun tn fb ki nu fi se sm en 0 0 (fillF be 40 (-1)) af).2.2.1) ((crun tn fb ki nu fi se sm en 0 0 (fillF be 40 (-1)) af).2.2.2) ((crun tn fb ki nu fi se sm en 0 0 (fillF be 40 (-1)) af).2.1) rf rp rs ra rb rl) := by
  refine KM.of (cc := cX4_check) (nL := 1) (ret := (some .int)) (by decide +kernel) rfl (Nat.le_of_ble_eq_true rfl) ?_
  have i4 : ∀ w ∈ u_ws RX4 TX4 4, w ∈ wsX4_check := by decide +kernel
  refine v_aload_n 1 rfl dX4_check_0 rfl rfl ?_
  refine v_get (ci := 4) (C := RX4) (T := TX4) (N := 4) (v := .ref (ad 11)) 4 rfl 0 2 dX4_check_1 rfl (Nat.le_of_ble_eq_true rfl) i4 (by decide +kernel) rfl rfl ?_
  refine v_callF (n := 0) (q0 := 11) (ci := 0) 7 rfl (c_checkProgram tn fb J htg hfn hen hJ hJe hob hJ0) gX4_check_X0_checkProgram rfl (by decide +kernel) rfl ⟨(Nat.le_of_ble_eq_true rfl), (Nat.le_of_ble_eq_true rfl)⟩ rfl (Nat.le_of_ble_eq_true rfl) rfl rfl rfl dX4_check_4 ⟨Nat.zero_le _, Nat.zero_le _⟩ rfl ?_
  refine v_st (st' := [.int (nI ((crun tn fb ki nu fi se sm en 0 0 (fillF be 40 (-1)) af).1))]) rfl ?_
  exact v_iret dX4_check_7 rfl rfl rfl

set_option maxRecDepth 100000 in
set_option maxHeartbeats 4000000 in
theorem c_check8 {D : va_G} {cI cZ cJ : ClassId} {l : Launch} {ad : Nat → Nat} {tg : Nat → Int32} {fn : Nat → Int32} {ki : Nat → Int32} {nu : Nat → Int32} {fi : Nat → Int32} {se : Nat → Int32} {ju : Nat → Int32} {op : Nat → Int32} {en : Nat} {sm : Nat} {ob : Nat} {be : Nat → Int32} {af : Nat → Int32} {pl : Int32} {rf : Int32} {rp : Int32} {rs : Nat} {ra : Nat} {rb : Int32} {rl : Nat} (hob : 0 < ob) (ho : ob ≤ 6) : KM D (tyL cI cZ cJ) l yX4_check wsX4_check 2 46 [.ref (ad 0)] (wC ad cI cZ tg fn ki nu fi se ju op en sm ob be af pl rf rp rs ra rb rl) (some (.int (nI 8))) (wC ad cI cZ tg fn ki nu fi se ju op en sm ob (fillF be 40 (-1)) af (nI sm) rf rp rs ra rb rl) := by
  refine KM.of (cc := cX4_check) (nL := 1) (ret := (some .int)) (by decide +kernel) rfl (Nat.le_of_ble_eq_true rfl) ?_
  have i4 : ∀ w ∈ u_ws RX4 TX4 4, w ∈ wsX4_check := by decide +kernel
  refine v_aload_n 1 rfl dX4_check_0 rfl rfl ?_
  refine v_get (ci := 4) (C := RX4) (T := TX4) (N := 4) (v := .ref (ad 11)) 4 rfl 0 2 dX4_check_1 rfl (Nat.le_of_ble_eq_true rfl) i4 (by decide +kernel) rfl rfl ?_
  refine v_callF (n := 0) (q0 := 11) (ci := 0) 7 rfl (c_checkProgram8 hob ho) gX4_check_X0_checkProgram rfl (by decide +kernel) rfl ⟨(Nat.le_of_ble_eq_true rfl), (Nat.le_of_ble_eq_true rfl)⟩ rfl (Nat.le_of_ble_eq_true rfl) rfl rfl rfl dX4_check_4 ⟨Nat.zero_le _, Nat.zero_le _⟩ rfl ?_
  refine v_st (st' := [.int (nI 8)]) rfl ?_
  exact v_iret dX4_check_7 rfl rfl rfl

set_option maxRecDepth 100000 in
set_option maxHeartbeats 4000000 in
theorem c_faultAt {D : va_G} {cI cZ cJ : ClassId} {l : Launch} {ad : Nat → Nat} {tg : Nat → Int32} {fn : Nat → Int32} {ki : Nat → Int32} {nu : Nat → Int32} {fi : Nat → Int32} {se : Nat → Int32} {ju : Nat → Int32} {op : Nat → Int32} {en : Nat} {sm : Nat} {ob : Nat} {be : Nat → Int32} {af : Nat → Int32} {pl : Int32} {rf : Int32} {rp : Int32} {rs : Nat} {ra : Nat} {rb : Int32} {rl : Nat}  : KM D (tyL cI cZ cJ) l yX4_faultAt wsX4_faultAt 0 0 [.ref (ad 0)] (wC ad cI cZ tg fn ki nu fi se ju op en sm ob be af pl rf rp rs ra rb rl) (some (.int pl)) (wC ad cI cZ tg fn ki nu fi se ju op en sm ob be af pl rf rp rs ra rb rl) := by
  refine KM.of (cc := cX4_faultAt) (nL := 1) (ret := (some .int)) (by decide +kernel) rfl (Nat.le_of_ble_eq_true rfl) ?_
  have i0 : ∀ w ∈ u_ws RX0 TX0 5, w ∈ wsX4_faultAt := by decide +kernel
  have i4 : ∀ w ∈ u_ws RX4 TX4 4, w ∈ wsX4_faultAt := by decide +kernel
  refine v_aload_n 1 rfl dX4_faultAt_0 rfl rfl ?_
  refine v_get (ci := 4) (C := RX4) (T := TX4) (N := 4) (v := .ref (ad 11)) 4 rfl 0 2 dX4_faultAt_1 rfl (Nat.le_of_ble_eq_true rfl) i4 (by decide +kernel) rfl rfl ?_
  refine v_getN (ci := 0) (C := RX0) (T := TX0) (N := 5) (v := .int pl) 7 rfl 11 4 dX4_faultAt_4 rfl (Nat.le_of_ble_eq_true rfl) i0 (by decide +kernel) rfl rfl ?_
  exact v_iret dX4_faultAt_7 rfl rfl rfl

set_option maxRecDepth 100000 in
set_option maxHeartbeats 4000000 in
theorem c_held {D : va_G} {cI cZ cJ : ClassId} {l : Launch} {ad : Nat → Nat} {tg : Nat → Int32} {fn : Nat → Int32} {ki : Nat → Int32} {nu : Nat → Int32} {fi : Nat → Int32} {se : Nat → Int32} {ju : Nat → Int32} {op : Nat → Int32} {en : Nat} {sm : Nat} {ob : Nat} {be : Nat → Int32} {af : Nat → Int32} {pl : Int32} {rf : Int32} {rp : Int32} {rs : Nat} {ra : Nat} {rb : Int32} {rl : Nat} (n v A : Nat) (hn : n < 40) (hv : v < 4) (hA : A < 2 ^ 20) (hB : be n = nI A) : KM D (tyL cI cZ cJ) l yX4_held wsX4_held 2 42 [.ref (ad 0), .int (nI n), .int (nI v)] (wC ad cI cZ tg fn ki nu fi se ju op en sm ob be af pl rf rp rs ra rb rl) (some (.int (oI (hb A v)))) (wC ad cI cZ tg fn ki nu fi se ju op en sm ob be af pl rf rp rs ra rb rl) := by
  refine KM.of (cc := cX4_held) (nL := 4) (ret := (some .int)) (by decide +kernel) rfl (Nat.le_of_ble_eq_true rfl) ?_
  have i4 : ∀ w ∈ u_ws RX4 TX4 4, w ∈ wsX4_held := by decide +kernel
  refine v_aload_n 1 rfl dX4_held_0 rfl rfl ?_
  refine v_get (ci := 4) (C := RX4) (T := TX4) (N := 4) (v := .ref (ad 11)) 4 rfl 0 2 dX4_held_1 rfl (Nat.le_of_ble_eq_true rfl) i4 (by decide +kernel) rfl rfl ?_
  refine v_iload_n 5 rfl dX4_held_4 rfl rfl ?_
  refine v_callF (n := 1) (q0 := 11) (ci := 0) 8 rfl (c_heldBefore n (nI A) hn hB) gX4_held_X0_heldBefore rfl (by decide +kernel) rfl ⟨(Nat.le_of_ble_eq_true rfl), (Nat.le_of_ble_eq_true rfl)⟩ rfl (Nat.le_of_ble_eq_true rfl) rfl rfl rfl dX4_held_5 ⟨Nat.zero_le _, Nat.zero_le _⟩ rfl ?_
  refine v_st (st' := [.int (nI A)]) rfl ?_
  refine v_istore_n (lv' := [(3, .int (nI A)), (0, .ref (ad 0)), (1, .int (nI n)), (2, .int (nI v))]) 9 rfl dX4_held_8 rfl (Nat.le_of_ble_eq_true rfl) rfl ?_
  refine v_iload_n 10 rfl dX4_held_9 rfl rfl ?_
  refine v_iconst (v := -1) 11 rfl dX4_held_10 (by decide) ?_
  refine v_icmp_eq 21 14 rfl dX4_held_11 (by decide) (fun q => False.elim (by exact absurd q (nI_ne_m1 (by omega)))) (fun c11 => ?_)
  refine v_iload_n 15 rfl dX4_held_14 rfl rfl ?_
  refine v_callS (n := 1) 18 rfl (c_isVariableT v (by omega)) gX4_held_X4_isVariable rfl (by decide +kernel) rfl ⟨(Nat.le_of_ble_eq_true rfl), (Nat.le_of_ble_eq_true rfl)⟩ rfl (Nat.le_of_ble_eq_true rfl) dX4_held_15 ⟨Nat.zero_le _, Nat.zero_le _⟩ ?_
  refine v_st (st' := [.int (bI true)]) rfl ?_
  refine v_if_neB (b := true) 26 21 rfl dX4_held_18 (by decide) (fun c18 => ?_) (fun q => False.elim (by cases q))
  refine v_iload_n 27 rfl dX4_held_26 rfl rfl ?_
  refine v_iload_n 28 rfl dX4_held_27 rfl rfl ?_
  refine v_callS (n := 2) 31 rfl (c_heldBy A v (by omega) (by omega)) gX4_held_X4_heldBy rfl (by decide +kernel) rfl ⟨(Nat.le_of_ble_eq_true rfl), (Nat.le_of_ble_eq_true rfl)⟩ rfl (Nat.le_of_ble_eq_true rfl) dX4_held_28 ⟨Nat.zero_le _, Nat.zero_le _⟩ ?_
  refine v_st (st' := [.int (oI (hb A v))]) rfl ?_
  exact v_iret dX4_held_31 rfl rfl rfl

set_option maxRecDepth 100000 in
set_option maxHeartbeats 4000000 in
theorem c_heldM {D : va_G} {cI cZ cJ : ClassId} {l : Launch} {ad : Nat → Nat} {tg : Nat → Int32} {fn : Nat → Int32} {ki : Nat → Int32} {nu : Nat → Int32} {fi : Nat → Int32} {se : Nat → Int32} {ju : Nat → Int32} {op : Nat → Int32} {en : Nat} {sm : Nat} {ob : Nat} {be : Nat → Int32} {af : Nat → Int32} {pl : Int32} {rf : Int32} {rp : Int32} {rs : Nat} {ra : Nat} {rb : Int32} {rl : Nat} (n : Nat) (v : Int32) (hn : n < 40) (hB : be n = -1) : KM D (tyL cI cZ cJ) l yX4_held wsX4_held 2 42 [.ref (ad 0), .int (nI n), .int v] (wC ad cI cZ tg fn ki nu fi se ju op en sm ob be af pl rf rp rs ra rb rl) (some (.int (-2))) (wC ad cI cZ tg fn ki nu fi se ju op en sm ob be af pl rf rp rs ra rb rl) := by
  refine KM.of (cc := cX4_held) (nL := 4) (ret := (some .int)) (by decide +kernel) rfl (Nat.le_of_ble_eq_true rfl) ?_
  have i4 : ∀ w ∈ u_ws RX4 TX4 4, w ∈ wsX4_held := by decide +kernel
  refine v_aload_n 1 rfl dX4_held_0 rfl rfl ?_
  refine v_get (ci := 4) (C := RX4) (T := TX4) (N := 4) (v := .ref (ad 11)) 4 rfl 0 2 dX4_held_1 rfl (Nat.le_of_ble_eq_true rfl) i4 (by decide +kernel) rfl rfl ?_
  refine v_iload_n 5 rfl dX4_held_4 rfl rfl ?_
  refine v_callF (n := 1) (q0 := 11) (ci := 0) 8 rfl (c_heldBefore n (-1) hn hB) gX4_held_X0_heldBefore rfl (by decide +kernel) rfl ⟨(Nat.le_of_ble_eq_true rfl), (Nat.le_of_ble_eq_true rfl)⟩ rfl (Nat.le_of_ble_eq_true rfl) rfl rfl rfl dX4_held_5 ⟨Nat.zero_le _, Nat.zero_le _⟩ rfl ?_
  refine v_st (st' := [.int (-1)]) rfl ?_
  refine v_istore_n (lv' := [(3, .int (-1)), (0, .ref (ad 0)), (1, .int (nI n)), (2, .int v)]) 9 rfl dX4_held_8 rfl (Nat.le_of_ble_eq_true rfl) rfl ?_
  refine v_iload_n 10 rfl dX4_held_9 rfl rfl ?_
  refine v_iconst (v := -1) 11 rfl dX4_held_10 (by decide) ?_
  refine v_icmp_eq 21 14 rfl dX4_held_11 (by decide) (fun c11 => ?_) (fun q => False.elim (by exact absurd rfl q))
  refine v_bipush (v := -2) 23 rfl dX4_held_21 (by decide) ?_
  refine v_goto 31 dX4_held_23 (by decide) ?_
  exact v_iret dX4_held_31 rfl rfl rfl

set_option maxRecDepth 100000 in
set_option maxHeartbeats 4000000 in
theorem c_heldV {D : va_G} {cI cZ cJ : ClassId} {l : Launch} {ad : Nat → Nat} {tg : Nat → Int32} {fn : Nat → Int32} {ki : Nat → Int32} {nu : Nat → Int32} {fi : Nat → Int32} {se : Nat → Int32} {ju : Nat → Int32} {op : Nat → Int32} {en : Nat} {sm : Nat} {ob : Nat} {be : Nat → Int32} {af : Nat → Int32} {pl : Int32} {rf : Int32} {rp : Int32} {rs : Nat} {ra : Nat} {rb : Int32} {rl : Nat} (n A : Nat) (v : Int32) (hn : n < 40) (hA : A < 2 ^ 20) (hv : bel v (nI 4) = false) (hB : be n = nI A) : KM D (tyL cI cZ cJ) l yX4_held wsX4_held 2 42 [.ref (ad 0), .int (nI n), .int v] (wC ad cI cZ tg fn ki nu fi se ju op en sm ob be af pl rf rp rs ra rb rl) (some (.int (-2))) (wC ad cI cZ tg fn ki nu fi se ju op en sm ob be af pl rf rp rs ra rb rl) := by
  refine KM.of (cc := cX4_held) (nL := 4) (ret := (some .int)) (by decide +kernel) rfl (Nat.le_of_ble_eq_true rfl) ?_
  have i4 : ∀ w ∈ u_ws RX4 TX4 4, w ∈ wsX4_held := by decide +kernel
  refine v_aload_n 1 rfl dX4_held_0 rfl rfl ?_
  refine v_get (ci := 4) (C := RX4) (T := TX4) (N := 4) (v := .ref (ad 11)) 4 rfl 0 2 dX4_held_1 rfl (Nat.le_of_ble_eq_true rfl) i4 (by decide +kernel) rfl rfl ?_
  refine v_iload_n 5 rfl dX4_held_4 rfl rfl ?_
  refine v_callF (n := 1) (q0 := 11) (ci := 0) 8 rfl (c_heldBefore n (nI A) hn hB) gX4_held_X0_heldBefore rfl (by decide +kernel) rfl ⟨(Nat.le_of_ble_eq_true rfl), (Nat.le_of_ble_eq_true rfl)⟩ rfl (Nat.le_of_ble_eq_true rfl) rfl rfl rfl dX4_held_5 ⟨Nat.zero_le _, Nat.zero_le _⟩ rfl ?_
  refine v_st (st' := [.int (nI A)]) rfl ?_
  refine v_istore_n (lv' := [(3, .int (nI A)), (0, .ref (ad 0)), (1, .int (nI n)), (2, .int v)]) 9 rfl dX4_held_8 rfl (Nat.le_of_ble_eq_true rfl) rfl ?_
  refine v_iload_n 10 rfl dX4_held_9 rfl rfl ?_
  refine v_iconst (v := -1) 11 rfl dX4_held_10 (by decide) ?_
  refine v_icmp_eq 21 14 rfl dX4_held_11 (by decide) (fun q => False.elim (by exact absurd q (nI_ne_m1 (by omega)))) (fun c11 => ?_)
  refine v_iload_n 15 rfl dX4_held_14 rfl rfl ?_
  refine v_callS (n := 1) 18 rfl (c_isVariable v) gX4_held_X4_isVariable rfl (by decide +kernel) rfl ⟨(Nat.le_of_ble_eq_true rfl), (Nat.le_of_ble_eq_true rfl)⟩ rfl (Nat.le_of_ble_eq_true rfl) dX4_held_15 ⟨Nat.zero_le _, Nat.zero_le _⟩ ?_
  refine v_st (st' := [.int (bI (bel v (nI 4)))]) rfl ?_
  refine v_if_neB (b := bel v (nI 4)) 26 21 rfl dX4_held_18 (by decide) (fun q => False.elim (by rw [hv] at q; cases q)) (fun c18 => ?_)
  refine v_bipush (v := -2) 23 rfl dX4_held_21 (by decide) ?_
  refine v_goto 31 dX4_held_23 (by decide) ?_
  exact v_iret dX4_held_31 rfl rfl rfl

set_option maxRecDepth 100000 in
set_option maxHeartbeats 4000000 in
theorem c_heldN {D : va_G} {cI cZ cJ : ClassId} {l : Launch} {ad : Nat → Nat} {tg : Nat → Int32} {fn : Nat → Int32} {ki : Nat → Int32} {nu : Nat → Int32} {fi : Nat → Int32} {se : Nat → Int32} {ju : Nat → Int32} {op : Nat → Int32} {en : Nat} {sm : Nat} {ob : Nat} {be : Nat → Int32} {af : Nat → Int32} {pl : Int32} {rf : Int32} {rp : Int32} {rs : Nat} {ra : Nat} {rb : Int32} {rl : Nat} (n v : Int32) (hn : bel n (nI 40) = false) : KM D (tyL cI cZ cJ) l yX4_held wsX4_held 2 42 [.ref (ad 0), .int n, .int v] (wC ad cI cZ tg fn ki nu fi se ju op en sm ob be af pl rf rp rs ra rb rl) (some (.int (-2))) (wC ad cI cZ tg fn ki nu fi se ju op en sm ob be af pl rf rp rs ra rb rl) := by
  refine KM.of (cc := cX4_held) (nL := 4) (ret := (some .int)) (by decide +kernel) rfl (Nat.le_of_ble_eq_true rfl) ?_
  have i4 : ∀ w ∈ u_ws RX4 TX4 4, w ∈ wsX4_held := by decide +kernel
  refine v_aload_n 1 rfl dX4_held_0 rfl rfl ?_
  refine v_get (ci := 4) (C := RX4) (T := TX4) (N := 4) (v := .ref (ad 11)) 4 rfl 0 2 dX4_held_1 rfl (Nat.le_of_ble_eq_true rfl) i4 (by decide +kernel) rfl rfl ?_
  refine v_iload_n 5 rfl dX4_held_4 rfl rfl ?_
  refine v_callF (n := 1) (q0 := 11) (ci := 0) 8 rfl (c_heldBeforeNo n hn) gX4_held_X0_heldBefore rfl (by decide +kernel) rfl ⟨(Nat.le_of_ble_eq_true rfl), (Nat.le_of_ble_eq_true rfl)⟩ rfl (Nat.le_of_ble_eq_true rfl) rfl rfl rfl dX4_held_5 ⟨Nat.zero_le _, Nat.zero_le _⟩ rfl ?_
  refine v_st (st' := [.int (-1)]) rfl ?_
  refine v_istore_n (lv' := [(3, .int (-1)), (0, .ref (ad 0)), (1, .int n), (2, .int v)]) 9 rfl dX4_held_8 rfl (Nat.le_of_ble_eq_true rfl) rfl ?_
  refine v_iload_n 10 rfl dX4_held_9 rfl rfl ?_
  refine v_iconst (v := -1) 11 rfl dX4_held_10 (by decide) ?_
  refine v_icmp_eq 21 14 rfl dX4_held_11 (by decide) (fun c11 => ?_) (fun q => False.elim (by exact absurd rfl q))
  refine v_bipush (v := -2) 23 rfl dX4_held_21 (by decide) ?_
  refine v_goto 31 dX4_held_23 (by decide) ?_
  exact v_iret dX4_held_31 rfl rfl rfl

set_option maxRecDepth 100000 in
set_option maxHeartbeats 4000000 in
theorem c_runFault {D : va_G} {cI cZ cJ : ClassId} {l : Launch} {ad : Nat → Nat} {tg : Nat → Int32} {fn : Nat → Int32} {ki : Nat → Int32} {nu : Nat → Int32} {fi : Nat → Int32} {se : Nat → Int32} {ju : Nat → Int32} {op : Nat → Int32} {en : Nat} {sm : Nat} {ob : Nat} {be : Nat → Int32} {af : Nat → Int32} {pl : Int32} {rf : Int32} {rp : Int32} {rs : Nat} {ra : Nat} {rb : Int32} {rl : Nat}  : KM D (tyL cI cZ cJ) l yX4_runFault wsX4_runFault 0 0 [.ref (ad 0)] (wC ad cI cZ tg fn ki nu fi se ju op en sm ob be af pl rf rp rs ra rb rl) (some (.int rf)) (wC ad cI cZ tg fn ki nu fi se ju op en sm ob be af pl rf rp rs ra rb rl) := by
  refine KM.of (cc := cX4_runFault) (nL := 1) (ret := (some .int)) (by decide +kernel) rfl (Nat.le_of_ble_eq_true rfl) ?_
  have i3 : ∀ w ∈ u_ws RX3 TX3 8, w ∈ wsX4_runFault := by decide +kernel
  have i4 : ∀ w ∈ u_ws RX4 TX4 4, w ∈ wsX4_runFault := by decide +kernel
  refine v_aload_n 1 rfl dX4_runFault_0 rfl rfl ?_
  refine v_get (ci := 4) (C := RX4) (T := TX4) (N := 4) (v := .ref (ad 14)) 4 rfl 0 3 dX4_runFault_1 rfl (Nat.le_of_ble_eq_true rfl) i4 (by decide +kernel) rfl rfl ?_
  refine v_getN (ci := 3) (C := RX3) (T := TX3) (N := 8) (v := .int rf) 7 rfl 14 2 dX4_runFault_4 rfl (Nat.le_of_ble_eq_true rfl) i3 (by decide +kernel) rfl rfl ?_
  exact v_iret dX4_runFault_7 rfl rfl rfl

set_option maxRecDepth 100000 in
set_option maxHeartbeats 4000000 in
theorem c_runAt {D : va_G} {cI cZ cJ : ClassId} {l : Launch} {ad : Nat → Nat} {tg : Nat → Int32} {fn : Nat → Int32} {ki : Nat → Int32} {nu : Nat → Int32} {fi : Nat → Int32} {se : Nat → Int32} {ju : Nat → Int32} {op : Nat → Int32} {en : Nat} {sm : Nat} {ob : Nat} {be : Nat → Int32} {af : Nat → Int32} {pl : Int32} {rf : Int32} {rp : Int32} {rs : Nat} {ra : Nat} {rb : Int32} {rl : Nat}  : KM D (tyL cI cZ cJ) l yX4_runAt wsX4_runAt 0 0 [.ref (ad 0)] (wC ad cI cZ tg fn ki nu fi se ju op en sm ob be af pl rf rp rs ra rb rl) (some (.int rp)) (wC ad cI cZ tg fn ki nu fi se ju op en sm ob be af pl rf rp rs ra rb rl) := by
  refine KM.of (cc := cX4_runAt) (nL := 1) (ret := (some .int)) (by decide +kernel) rfl (Nat.le_of_ble_eq_true rfl) ?_
  have i3 : ∀ w ∈ u_ws RX3 TX3 8, w ∈ wsX4_runAt := by decide +kernel
  have i4 : ∀ w ∈ u_ws RX4 TX4 4, w ∈ wsX4_runAt := by decide +kernel
  refine v_aload_n 1 rfl dX4_runAt_0 rfl rfl ?_
  refine v_get (ci := 4) (C := RX4) (T := TX4) (N := 4) (v := .ref (ad 14)) 4 rfl 0 3 dX4_runAt_1 rfl (Nat.le_of_ble_eq_true rfl) i4 (by decide +kernel) rfl rfl ?_
  refine v_getN (ci := 3) (C := RX3) (T := TX3) (N := 8) (v := .int rp) 7 rfl 14 3 dX4_runAt_4 rfl (Nat.le_of_ble_eq_true rfl) i3 (by decide +kernel) rfl rfl ?_
  exact v_iret dX4_runAt_7 rfl rfl rfl

set_option maxRecDepth 100000 in
set_option maxHeartbeats 4000000 in
theorem c_steps {D : va_G} {cI cZ cJ : ClassId} {l : Launch} {ad : Nat → Nat} {tg : Nat → Int32} {fn : Nat → Int32} {ki : Nat → Int32} {nu : Nat → Int32} {fi : Nat → Int32} {se : Nat → Int32} {ju : Nat → Int32} {op : Nat → Int32} {en : Nat} {sm : Nat} {ob : Nat} {be : Nat → Int32} {af : Nat → Int32} {pl : Int32} {rf : Int32} {rp : Int32} {rs : Nat} {ra : Nat} {rb : Int32} {rl : Nat}  : KM D (tyL cI cZ cJ) l yX4_steps wsX4_steps 0 0 [.ref (ad 0)] (wC ad cI cZ tg fn ki nu fi se ju op en sm ob be af pl rf rp rs ra rb rl) (some (.int (nI rs))) (wC ad cI cZ tg fn ki nu fi se ju op en sm ob be af pl rf rp rs ra rb rl) := by
  refine KM.of (cc := cX4_steps) (nL := 1) (ret := (some .int)) (by decide +kernel) rfl (Nat.le_of_ble_eq_true rfl) ?_
  have i3 : ∀ w ∈ u_ws RX3 TX3 8, w ∈ wsX4_steps := by decide +kernel
  have i4 : ∀ w ∈ u_ws RX4 TX4 4, w ∈ wsX4_steps := by decide +kernel
  refine v_aload_n 1 rfl dX4_steps_0 rfl rfl ?_
  refine v_get (ci := 4) (C := RX4) (T := TX4) (N := 4) (v := .ref (ad 14)) 4 rfl 0 3 dX4_steps_1 rfl (Nat.le_of_ble_eq_true rfl) i4 (by decide +kernel) rfl rfl ?_
  refine v_getN (ci := 3) (C := RX3) (T := TX3) (N := 8) (v := .int (nI rs)) 7 rfl 14 4 dX4_steps_4 rfl (Nat.le_of_ble_eq_true rfl) i3 (by decide +kernel) rfl rfl ?_
  exact v_iret dX4_steps_7 rfl rfl rfl

set_option maxRecDepth 100000 in
set_option maxHeartbeats 4000000 in
theorem c_left {D : va_G} {cI cZ cJ : ClassId} {l : Launch} {ad : Nat → Nat} {tg : Nat → Int32} {fn : Nat → Int32} {ki : Nat → Int32} {nu : Nat → Int32} {fi : Nat → Int32} {se : Nat → Int32} {ju : Nat → Int32} {op : Nat → Int32} {en : Nat} {sm : Nat} {ob : Nat} {be : Nat → Int32} {af : Nat → Int32} {pl : Int32} {rf : Int32} {rp : Int32} {rs : Nat} {ra : Nat} {rb : Int32} {rl : Nat} (v : Nat) (hv : v < 4) (hA : ra < 2 ^ 20) : KM D (tyL cI cZ cJ) l yX4_left wsX4_left 2 41 [.ref (ad 0), .int (nI v)] (wC ad cI cZ tg fn ki nu fi se ju op en sm ob be af pl rf rp rs ra rb rl) (some (.int (oI (hb ra v)))) (wC ad cI cZ tg fn ki nu fi se ju op en sm ob be af pl rf rp rs ra rb rl) := by
  refine KM.of (cc := cX4_left) (nL := 2) (ret := (some .int)) (by decide +kernel) rfl (Nat.le_of_ble_eq_true rfl) ?_
  have i3 : ∀ w ∈ u_ws RX3 TX3 8, w ∈ wsX4_left := by decide +kernel
  have i4 : ∀ w ∈ u_ws RX4 TX4 4, w ∈ wsX4_left := by decide +kernel
  refine v_iload_n 1 rfl dX4_left_0 rfl rfl ?_
  refine v_callS (n := 1) 4 rfl (c_isVariableT v (by omega)) gX4_left_X4_isVariable rfl (by decide +kernel) rfl ⟨(Nat.le_of_ble_eq_true rfl), (Nat.le_of_ble_eq_true rfl)⟩ rfl (Nat.le_of_ble_eq_true rfl) dX4_left_1 ⟨Nat.zero_le _, Nat.zero_le _⟩ ?_
  refine v_st (st' := [.int (bI true)]) rfl ?_
  refine v_if_eqB (b := true) 21 7 rfl dX4_left_4 (by decide) (fun q => False.elim (by cases q)) (fun c4 => ?_)
  refine v_aload_n 8 rfl dX4_left_7 rfl rfl ?_
  refine v_get (ci := 4) (C := RX4) (T := TX4) (N := 4) (v := .ref (ad 14)) 11 rfl 0 3 dX4_left_8 rfl (Nat.le_of_ble_eq_true rfl) i4 (by decide +kernel) rfl rfl ?_
  refine v_getN (ci := 3) (C := RX3) (T := TX3) (N := 8) (v := .int (nI ra)) 14 rfl 14 5 dX4_left_11 rfl (Nat.le_of_ble_eq_true rfl) i3 (by decide +kernel) rfl rfl ?_
  refine v_iload_n 15 rfl dX4_left_14 rfl rfl ?_
  refine v_callS (n := 2) 18 rfl (c_heldBy ra v (by omega) (by omega)) gX4_left_X4_heldBy rfl (by decide +kernel) rfl ⟨(Nat.le_of_ble_eq_true rfl), (Nat.le_of_ble_eq_true rfl)⟩ rfl (Nat.le_of_ble_eq_true rfl) dX4_left_15 ⟨Nat.zero_le _, Nat.zero_le _⟩ ?_
  refine v_st (st' := [.int (oI (hb ra v))]) rfl ?_
  refine v_goto 23 dX4_left_18 (by decide) ?_
  exact v_iret dX4_left_23 rfl rfl rfl

set_option maxRecDepth 100000 in
set_option maxHeartbeats 4000000 in
theorem c_leftNo {D : va_G} {cI cZ cJ : ClassId} {l : Launch} {ad : Nat → Nat} {tg : Nat → Int32} {fn : Nat → Int32} {ki : Nat → Int32} {nu : Nat → Int32} {fi : Nat → Int32} {se : Nat → Int32} {ju : Nat → Int32} {op : Nat → Int32} {en : Nat} {sm : Nat} {ob : Nat} {be : Nat → Int32} {af : Nat → Int32} {pl : Int32} {rf : Int32} {rp : Int32} {rs : Nat} {ra : Nat} {rb : Int32} {rl : Nat} (v : Int32) (hv : bel v (nI 4) = false) : KM D (tyL cI cZ cJ) l yX4_left wsX4_left 2 41 [.ref (ad 0), .int v] (wC ad cI cZ tg fn ki nu fi se ju op en sm ob be af pl rf rp rs ra rb rl) (some (.int (-2))) (wC ad cI cZ tg fn ki nu fi se ju op en sm ob be af pl rf rp rs ra rb rl) := by
  refine KM.of (cc := cX4_left) (nL := 2) (ret := (some .int)) (by decide +kernel) rfl (Nat.le_of_ble_eq_true rfl) ?_
  refine v_iload_n 1 rfl dX4_left_0 rfl rfl ?_
  refine v_callS (n := 1) 4 rfl (c_isVariable v) gX4_left_X4_isVariable rfl (by decide +kernel) rfl ⟨(Nat.le_of_ble_eq_true rfl), (Nat.le_of_ble_eq_true rfl)⟩ rfl (Nat.le_of_ble_eq_true rfl) dX4_left_1 ⟨Nat.zero_le _, Nat.zero_le _⟩ ?_
  refine v_st (st' := [.int (bI (bel v (nI 4)))]) rfl ?_
  refine v_if_eqB (b := bel v (nI 4)) 21 7 rfl dX4_left_4 (by decide) (fun c4 => ?_) (fun q => False.elim (by rw [hv] at q; cases q))
  refine v_bipush (v := -2) 23 rfl dX4_left_21 (by decide) ?_
  exact v_iret dX4_left_23 rfl rfl rfl
end
