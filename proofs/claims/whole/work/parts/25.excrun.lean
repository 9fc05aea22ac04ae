/-! StateTypes.run throws; StateTypesLaw.run catches. -/
abbrev nIAE : String := "java/lang/IllegalArgumentException"
abbrev nISE : String := "java/lang/IllegalStateException"
abbrev nmE : List String := ["java/lang/RuntimeException", "java/lang/Exception"]
abbrev nmT : List String := ["java/lang/RuntimeException", "java/lang/Exception", Bundle.tN]
def Cst (E T : String) (U : State) : Prop := ∃ c t : ClassId, U.vm.findClass E = some c ∧ U.vm.findClass T = some t ∧ U.vm.assignable c t = true
theorem Cst.moved {E T : String} {u U : State} (hvm : u.vm.Alike U.vm) (h : Cst E T u) : Cst E T U := by
  obtain ⟨c, t, h1, h2, h3⟩ := h
  exact ⟨c, t, by rw [hvm.findClass]; exact h1, by rw [hvm.findClass]; exact h2, by rw [hvm.assignable]; exact h3⟩
theorem Cst.word {E T : String} {U : State} {args : Array Value} (h : Cst E T U) : (Cond.castable E T).before args U = true := by
  obtain ⟨c, t, h1, h2, h3⟩ := h
  simp [Cond.before, Cond.holds, Cond.value, h1, h2, h3]
theorem Cst.of {E T : String} {U : State} {args : Array Value} (h : (Cond.castable E T).before args U = true) : Cst E T U := by
  obtain ⟨c3, c4, hc3, hc4, hasg⟩ := Cond.castable_spec h
  exact ⟨c3, c4, hc3, hc4, hasg⟩
/-- what a throw needs of the tables, and of the heap outside A -/
def XPv (sa : Nat → Nat) (U : State) : Prop := vk_R RX4 99 "the number of bits is not 0 to 32" (sa 0) U ∧ vk_R RX4 107 "the program has open blocks" (sa 1) U ∧ vk_R RX4 118 "the run has a fault" (sa 2) U ∧ Cst nIAE nIAE U ∧ Cst nISE nISE U ∧ va_Nc nISE nIAE U ∧ ∀ Y ∈ nmT, va_Nw (.declares (Bundle.initS Y)) U
def XPh (A : Nat → Prop) (U : State) (H : Heap) : Prop := vx_Zq Bundle.tN "UNASSIGNED_STACK" Bundle.steD A U H ∧ vx_Zq Bundle.tN "SUPPRESSED_SENTINEL" Bundle.listD A U H
theorem XPv.warm {sa : Nat → Nat} {s U : State} (hW : s.WarmedH U.vm) (h : XPv sa s) : XPv sa U := ⟨vk_R.warm hW h.1, vk_R.warm hW h.2.1, vk_R.warm hW h.2.2.1, Cst.moved hW.alike h.2.2.2.1, Cst.moved hW.alike h.2.2.2.2.1, va_Nc.moved hW.alike h.2.2.2.2.2.1, fun Y hY => va_Nw.warmD hW (h.2.2.2.2.2.2 Y hY)⟩
theorem XPv.same {sa : Nat → Nat} {s U : State} (hv : U.vm = s.vm) (h : XPv sa s) : XPv sa U := by
  have hA : s.vm.Alike U.vm := by rw [hv]; exact Vm.Alike.refl s.vm
  exact ⟨vk_R.same hv h.1, vk_R.same hv h.2.1, vk_R.same hv h.2.2.1, Cst.moved hA h.2.2.2.1, Cst.moved hA h.2.2.2.2.1, va_Nc.moved hA h.2.2.2.2.2.1, fun Y hY => va_Nw.same rfl hv.symm (h.2.2.2.2.2.2 Y hY)⟩
theorem XPh.moved {A : Nat → Prop} {s U : State} {H : Heap} (hA : s.vm.Alike U.vm) (h : XPh A s H) : XPh A U H := ⟨vx_Zq.moved hA h.1, vx_Zq.moved hA h.2⟩
theorem XPh.kept {A : Nat → Prop} {U : State} {H H1 : Heap} (h : XPh A U H) (hq : ∀ a : Nat, a < H.size → ¬ A a → H1[a]? = H[a]?) : XPh A U H1 := ⟨vx_Zq.kept h.1 hq, vx_Zq.kept h.2 hq⟩
theorem XPh.narrow {A B : Nat → Prop} {U : State} {H : Heap} (h : XPh A U H) (hAB : ∀ q, B q → A q) : XPh B U H := ⟨vx_Zq.narrow h.1 hAB, vx_Zq.narrow h.2 hAB⟩
/-- the method's own table -/
def TabE (tbl : List ExceptionTableEntry) (args : Array Value) (s : State) : Prop := ∀ (m : MethodId) (meth : Method) (c : Code) (below : List Frame), s.frames = .invoking m args :: below → s.vm.method? m = some meth → meth.code = some c → c.exceptionTable.toList = tbl
theorem TabE.of {tbl : List ExceptionTableEntry} {args : Array Value} {s : State} {m : MethodId} {meth : Method} {c : Code} {below : List Frame} (h1 : s.frames = .invoking m args :: below) (h2 : s.vm.method? m = some meth) (h3 : meth.code = some c) (h : c.exceptionTable.toList = tbl) : TabE tbl args s := by
  intro m' meth' c' below' g1 g2 g3
  rw [h1] at g1
  cases g1
  cases Option.some.inj (h2.symm.trans g2)
  cases Option.some.inj (h3.symm.trans g3)
  exact h
abbrev rmX (fr lo : Nat) : Room := { frames := fr, cells := 1, slots := 6, locals := lo }
def KPreX (D : va_G) (tys : List (ClassId × FieldType)) (w : va_W) (sa : Nat → Nat) (sz : Nat) (U : State) : Prop := KPre D tys w sz U ∧ XPv sa U ∧ XPh (va_A w sz) U U.heap
theorem KPreX.blind {D : va_G} {tys : List (ClassId × FieldType)} {w : va_W} {sa : Nat → Nat} {sz : Nat} {av : List Value} : FrameBlind (va_Pc av (KPreX D tys w sa sz)) := fun a U g mk q => by
  obtain ⟨h1, ⟨q0, qP, qK, qN, qD⟩, hv, hh⟩ := q
  exact ⟨h1, ⟨q0, qP, va_K.moved (u := U) (U := U.calling g mk a) (Vm.Alike.refl U.vm) qK, NW.same (s := U) (U := U.calling g mk a) rfl qN, qD⟩, XPv.same (s := U) (U := U.calling g mk a) rfl hv, XPh.moved (s := U) (U := U.calling g mk a) (Vm.Alike.refl U.vm) hh⟩
/-- a method that throws an E -/
def XCk (D : va_G) (w w' : va_W) (E : String) (sz : Nat) : String → State → State → Prop := fun X st t => X = E ∧ va_P D vwCl w' t.heap ∧ va_F (va_A w sz) st t
def KX (D : va_G) (tys : List (ClassId × FieldType)) (l : Launch) (y : MethodName) (ws : List Cond) (fr lo : Nat) (av : List Value) (w w' : va_W) (E : String) (sa : Nat → Nat) : Prop :=
  ∀ sz : Nat, vx_Met l y ws (rmX fr lo) (va_Pc av (KPreX D tys w sa sz)) (fun _ _ _ _ => False) (XCk D w w' E sz) 1 6 (va_A w sz)
abbrev xX (D : va_G) (tys : List (ClassId × FieldType)) (l : Launch) (fr lo : Nat) (w w' : va_W) (E : String) (sa : Nat → Nat) : XX := (D, tys, l, rmX fr lo, w, (fun args below s => vx_MQ below (fun _ _ _ _ => False) (XCk D w w' E s.heap.size) args s 1 6 (va_A w s.heap.size)), (fun args s => XPv sa s ∧ XPh (va_A w s.heap.size) s s.heap ∧ TabE [] args s))
theorem KX.of {D : va_G} {tys : List (ClassId × FieldType)} {l : Launch} {y : MethodName} {ws ws' : List Cond} {fr lo : Nat} {av : List Value} {w w' : va_W} {E : String} {sa : Nat → Nat} {cc : ByteArray} {nL : Nat} {ret : Option FieldType} (hy : plainName y.cls = true) (hw : ws = Cond.code y cc nL ret :: ws') (hlen : (lg_sl av).length ≤ nL)
    (body : V (xX D tys l fr lo w w' E sa) (cc, ws, y.cls, nL, ret, y.name) 0 0 w 0 (lv_args 0 av) []) : KX D tys l y ws fr lo av w w' E sa := by
  intro sz
  refine vx_ofW (cc := cc) (maxL := nL) (ret := ret) hy hw ?_
  intro p e s m args below meth c s₁ B hml ht hv
  obtain ⟨rfl, ⟨hsz, hP, hK, hN, hD0⟩, hxv, hxh⟩ := hv
  subst hsz
  have hl := lv_entry av (n := nL) hlen
  rw [lg_entry_eq]
  have hempty : c.exceptionTable.toList = [] := List.eq_nil_iff_forall_not_mem.mpr (fun x hx => ht x hx)
  exact body p e s m av.toArray below meth c ⟨B.exec, B.bytes, hml, findClass_of_methodNamed B.named, atoms_spec (ws := ws) B.pre, hK, hN, B.notSynchronized, B.returns, (name_of_methodNamed B.named B.method).1, hxv, hxh, TabE.of B.frames B.method (Stand.of_body B).code hempty⟩ s.heap [] _ hP hD0.self va_S.rf hl
/-- throw new E("text"), of StateTypes -/
theorem v_thr {D : va_G} {tys : List (ClassId × FieldType)} {l : Launch} {fr lo : Nat} {w0 w w' : va_W} {sa : Nat → Nat} {k : KI} {pc : Nat} {lv : List (Nat × Value)} {E text : String} {ik is ic j : Nat} (hlT : l.stackTraces = false) (hk : kO k = RX4) (hk1 : Cond.classLink RX4 ik E ∈ kT k) (hk2 : Cond.initialized E ∈ kT k) (hwg : ∀ w ∈ (vx_atS RX4 ic E nmE).filter goodWord, w ∈ kT k)
    (hbad : ∀ w ∈ (vx_atS RX4 ic E nmE).filter (fun w => !goodWord w), w ∈ [Cond.castable E E, Cond.declares (Bundle.initS "java/lang/RuntimeException"), Cond.declares (Bundle.initS "java/lang/Exception"), Cond.declares (Bundle.initS Bundle.tN)]) (hgood : ∀ w ∈ Cond.classLink RX4 ik E :: Cond.initialized E :: vx_atS RX4 ic E nmE, vx_ot w = true) (hcast : ∀ U, XPv sa U → Cst E E U) (hstr : ∀ U, XPv sa U → vk_R RX4 is text j U) (hfit : Bundle.fit E = true)
    (d0 : decode k.1 pc = .ok (.new ik, 3)) (d3 : decode k.1 (pc + 3) = .ok (.dup, 1)) (d4 : decode k.1 (pc + 4) = .ok (.ldc is, 2)) (d6 : decode k.1 (pc + 6) = .ok (.invokespecial ic, 3)) (d9 : decode k.1 (pc + 9) = .ok (.athrow, 1)) (hfr : 5 < fr) (hlo : 82 ≤ lo) (hw : w = w') : V (xX D tys l fr lo w0 w' E sa) k 0 0 w pc lv [] := by
  subst hw
  intro p e s m args below meth c Z H locs ls hP hD hS hl
  have hts := Z.2.2.2.2.1
  obtain ⟨hxv, hxh, htab⟩ := Z.2.2.2.2.2.2.2.2.2.2
  intro T hT X
  have ht := htab m meth c below X.frames X.method X.code
  have hown := Z.2.2.2.1
  rw [hk] at hown
  refine vx_throwS (own := RX4) (cls := E) (text := text) (names := nmE) (ik := ik) (is := is) (ic := ic) (sa := j) (A := va_A w0 s.heap.size) Z.1 Z.2.1 hlT hown hfit (by decide +kernel) (hts _ hk1) (hts _ hk2) (hstr s hxv) (vx_hat (fun w hw => hts w (hwg w hw)) hbad (vx_c (hcast s hxv).word (vx_c (va_any rfl (hxv.2.2.2.2.2.2 _ (by decide))) (vx_c (va_any rfl (hxv.2.2.2.2.2.2 _ (by decide))) (vx_c (va_any rfl (hxv.2.2.2.2.2.2 _ (by decide))) vx_n))))) hgood hxh.1 hxh.2 hS (hl.1.trans Z.2.2.1.symm) d0 d3 d4 d6 d9 (by rw [ht]; intro x hx; cases hx) hfr (by simpa using hlo) (Nat.le_refl _) (Nat.le_refl _) Z.2.2.2.2.2.2.2.1 ?_ hS.2.2 (Nat.le_refl _) (Nat.le_refl _) T hT X
  intro t hA hz hk9
  exact ⟨rfl, hP.kept (fun i q hq => hk9 q.1 (hP i q hq).lt), Nat.le_trans hS.1 hz, fun q h1 h2 => (hk9 q (Nat.lt_of_lt_of_le h1 hS.1)).trans (hS.2.1 q h1 h2)⟩

set_option maxRecDepth 100000 in
set_option maxHeartbeats 4000000 in
theorem c_runOk {D : va_G} {cI cZ cJ : ClassId} {l : Launch} {ad : Nat → Nat} {tg : Nat → Int32} {fn : Nat → Int32} {ki : Nat → Int32} {nu : Nat → Int32} {fi : Nat → Int32} {se : Nat → Int32} {ju : Nat → Int32} {op : Nat → Int32} {en : Nat} {sm : Nat} {ob : Nat} {be : Nat → Int32} {af : Nat → Int32} {pl : Int32} {rf : Int32} {rp : Int32} {rs : Nat} {ra : Nat} {rb : Int32} {rl : Nat} {rp1 rb1 : Int32} {rs1 ra1 rl1 : Nat} (b : Int32) (n : Nat) (hn : n ≤ 32) (hob : ob = 0) (hM : KM D (tyL cI cZ cJ) l yX3_runProgram wsX3_runProgram 5 113 [.ref (ad 14), .int b, .int (nI n)] (wC ad cI cZ tg fn ki nu fi se ju op en sm ob be af pl rf rp rs ra rb rl) none (wC ad cI cZ tg fn ki nu fi se ju op en sm ob be af pl (nI 0) rp1 rs1 ra1 rb1 rl1))  : KM D (tyL cI cZ cJ) l yX4_run wsX4_run 6 137 [.ref (ad 0), .int b, .int (nI n)] (wC ad cI cZ tg fn ki nu fi se ju op en sm ob be af pl rf rp rs ra rb rl) (some (.int (nI rs1))) (wC ad cI cZ tg fn ki nu fi se ju op en sm ob be af pl (nI 0) rp1 rs1 ra1 rb1 rl1) := by
  refine KM.of (cc := cX4_run) (nL := 3) (ret := (some .int)) (by decide +kernel) rfl (Nat.le_of_ble_eq_true rfl) ?_
  have i3 : ∀ w ∈ u_ws RX3 TX3 8, w ∈ wsX4_run := by decide +kernel
  have i4 : ∀ w ∈ u_ws RX4 TX4 4, w ∈ wsX4_run := by decide +kernel
  refine v_iload_n 1 rfl dX4_run_0 rfl rfl ?_
  refine v_if_ltN (a := n) 10 4 rfl dX4_run_1 (by decide) (by omega) ?_
  refine v_iload_n 5 rfl dX4_run_4 rfl rfl ?_
  refine v_bipush (v := nI 32) 7 rfl dX4_run_5 (by decide) ?_
  refine v_icmp_leN (a := n) (b := 32) 20 10 rfl dX4_run_7 (by decide) (by omega) (by omega) (fun c7 => ?_) (fun q => False.elim (by omega))
  refine v_aload_n 21 rfl dX4_run_20 rfl rfl ?_
  refine v_get (ci := 4) (C := RX4) (T := TX4) (N := 4) (v := .ref (ad 4)) 24 rfl 0 1 dX4_run_21 rfl (Nat.le_of_ble_eq_true rfl) i4 (by decide +kernel) rfl rfl ?_
  refine v_callF (n := 0) (q0 := 4) (ci := 1) 27 rfl (c_hasOpenBlocks (by omega)) gX4_run_X1_hasOpenBlocks rfl (by decide +kernel) rfl ⟨(Nat.le_of_ble_eq_true rfl), (Nat.le_of_ble_eq_true rfl)⟩ rfl (Nat.le_of_ble_eq_true rfl) rfl rfl rfl dX4_run_24 ⟨Nat.zero_le _, Nat.zero_le _⟩ rfl ?_
  refine v_st (st' := [.int (bI (decide (0 < ob)))]) rfl ?_
  refine v_top (v' := bI false) (by subst hob; rfl) ?_
  refine v_if_eqB (b := false) 40 30 rfl dX4_run_27 (by decide) (fun c27 => ?_) (fun q => False.elim (by cases q))
  refine v_aload_n 41 rfl dX4_run_40 rfl rfl ?_
  refine v_get (ci := 4) (C := RX4) (T := TX4) (N := 4) (v := .ref (ad 14)) 44 rfl 0 3 dX4_run_41 rfl (Nat.le_of_ble_eq_true rfl) i4 (by decide +kernel) rfl rfl ?_
  refine v_iload_n 45 rfl dX4_run_44 rfl rfl ?_
  refine v_iload_n 46 rfl dX4_run_45 rfl rfl ?_
  refine v_callF (n := 2) (q0 := 14) (ci := 3) 49 rfl (hM) gX4_run_X3_runProgram rfl (by decide +kernel) rfl ⟨(Nat.le_of_ble_eq_true rfl), (Nat.le_of_ble_eq_true rfl)⟩ rfl (Nat.le_of_ble_eq_true rfl) rfl rfl rfl dX4_run_46 ⟨Nat.zero_le _, Nat.zero_le _⟩ rfl ?_
  refine v_st (st' := []) rfl ?_
  refine v_aload_n 50 rfl dX4_run_49 rfl rfl ?_
  refine v_get (ci := 4) (C := RX4) (T := TX4) (N := 4) (v := .ref (ad 14)) 53 rfl 0 3 dX4_run_50 rfl (Nat.le_of_ble_eq_true rfl) i4 (by decide +kernel) rfl rfl ?_
  refine v_getN (ci := 3) (C := RX3) (T := TX3) (N := 8) (v := .int (nI 0)) 56 rfl 14 2 dX4_run_53 rfl (Nat.le_of_ble_eq_true rfl) i3 (by decide +kernel) rfl rfl ?_
  refine v_if_eqN (a := 0) 69 59 rfl dX4_run_56 (by decide) (by omega) (fun c56 => ?_) (fun q => False.elim (by omega))
  refine v_aload_n 70 rfl dX4_run_69 rfl rfl ?_
  refine v_get (ci := 4) (C := RX4) (T := TX4) (N := 4) (v := .ref (ad 14)) 73 rfl 0 3 dX4_run_70 rfl (Nat.le_of_ble_eq_true rfl) i4 (by decide +kernel) rfl rfl ?_
  refine v_getN (ci := 3) (C := RX3) (T := TX3) (N := 8) (v := .int (nI rs1)) 76 rfl 14 4 dX4_run_73 rfl (Nat.le_of_ble_eq_true rfl) i3 (by decide +kernel) rfl rfl ?_
  exact v_iret dX4_run_76 rfl rfl rfl

set_option maxRecDepth 100000 in
theorem hwgnIAE : ∀ w ∈ (vx_atS RX4 101 nIAE nmE).filter goodWord, w ∈ wsX4_run := by
  intro w hw
  unfold wsX4_run
  refine List.mem_cons_of_mem _ ?_
  exact List.mem_append_left _ (List.mem_append_right _ hw)
set_option maxRecDepth 100000 in
theorem hbdnIAE : ∀ w ∈ (vx_atS RX4 101 nIAE nmE).filter (fun w => !goodWord w), w ∈ [Cond.castable nIAE nIAE, Cond.declares (Bundle.initS "java/lang/RuntimeException"), Cond.declares (Bundle.initS "java/lang/Exception"), Cond.declares (Bundle.initS Bundle.tN)] := by decide +kernel
set_option maxRecDepth 100000 in
theorem hgdnIAE : ∀ w ∈ Cond.classLink RX4 97 nIAE :: Cond.initialized nIAE :: vx_atS RX4 101 nIAE nmE, vx_ot w = true := by decide +kernel

set_option maxRecDepth 100000 in
theorem hwgnISE : ∀ w ∈ (vx_atS RX4 120 nISE nmE).filter goodWord, w ∈ wsX4_run := by
  intro w hw
  unfold wsX4_run
  refine List.mem_cons_of_mem _ ?_
  exact List.mem_append_right _ hw
set_option maxRecDepth 100000 in
theorem hbdnISE : ∀ w ∈ (vx_atS RX4 120 nISE nmE).filter (fun w => !goodWord w), w ∈ [Cond.castable nISE nISE, Cond.declares (Bundle.initS "java/lang/RuntimeException"), Cond.declares (Bundle.initS "java/lang/Exception"), Cond.declares (Bundle.initS Bundle.tN)] := by decide +kernel
set_option maxRecDepth 100000 in
theorem hgdnISE : ∀ w ∈ Cond.classLink RX4 116 nISE :: Cond.initialized nISE :: vx_atS RX4 120 nISE nmE, vx_ot w = true := by decide +kernel

set_option maxRecDepth 100000 in
set_option maxHeartbeats 4000000 in
theorem c_runIAE1 {D : va_G} {cI cZ cJ : ClassId} {l : Launch} {ad : Nat → Nat} {tg : Nat → Int32} {fn : Nat → Int32} {ki : Nat → Int32} {nu : Nat → Int32} {fi : Nat → Int32} {se : Nat → Int32} {ju : Nat → Int32} {op : Nat → Int32} {en : Nat} {sm : Nat} {ob : Nat} {be : Nat → Int32} {af : Nat → Int32} {pl : Int32} {rf : Int32} {rp : Int32} {rs : Nat} {ra : Nat} {rb : Int32} {rl : Nat} (hlT : l.stackTraces = false) (sa : Nat → Nat) (b c : Int32) (h : c < 0 ∨ nI 32 < c) : KX D (tyL cI cZ cJ) l yX4_run wsX4_run 6 137 [.ref (ad 0), .int b, .int c] (wC ad cI cZ tg fn ki nu fi se ju op en sm ob be af pl rf rp rs ra rb rl) (wC ad cI cZ tg fn ki nu fi se ju op en sm ob be af pl rf rp rs ra rb rl) nIAE sa := by
  refine KX.of (cc := cX4_run) (nL := 3) (ret := (some .int)) (by decide +kernel) rfl (Nat.le_of_ble_eq_true rfl) ?_
  refine v_iload_n 1 rfl dX4_run_0 rfl rfl ?_
  refine v_if_lt 10 4 rfl dX4_run_1 (by decide) (fun c1 => ?_) (fun c1 => ?_)
  · exact v_thr (E := nIAE) (ik := 97) (is := 99) (ic := 101) (j := sa 0) (text := "the number of bits is not 0 to 32") hlT rfl (by decide +kernel) (by decide +kernel) hwgnIAE hbdnIAE hgdnIAE (fun U h => h.2.2.2.1) (fun U h => h.1) (by decide +kernel) dX4_run_10 dX4_run_13 dX4_run_14 dX4_run_16 dX4_run_19 (Nat.le_of_ble_eq_true rfl) (Nat.le_of_ble_eq_true rfl) rfl
  · refine v_iload_n 5 rfl dX4_run_4 rfl rfl ?_
    refine v_bipush (v := nI 32) 7 rfl dX4_run_5 (by decide) ?_
    refine v_icmp_le 20 10 rfl dX4_run_7 (by decide) (fun c7 => ?_) (fun c7 => ?_)
    · exact absurd h (by simp only [not_or]; exact ⟨c1, Int32.not_lt.mpr c7⟩)
    · exact v_thr (E := nIAE) (ik := 97) (is := 99) (ic := 101) (j := sa 0) (text := "the number of bits is not 0 to 32") hlT rfl (by decide +kernel) (by decide +kernel) hwgnIAE hbdnIAE hgdnIAE (fun U h => h.2.2.2.1) (fun U h => h.1) (by decide +kernel) dX4_run_10 dX4_run_13 dX4_run_14 dX4_run_16 dX4_run_19 (Nat.le_of_ble_eq_true rfl) (Nat.le_of_ble_eq_true rfl) rfl

set_option maxRecDepth 100000 in
set_option maxHeartbeats 4000000 in
theorem c_runIAE2 {D : va_G} {cI cZ cJ : ClassId} {l : Launch} {ad : Nat → Nat} {tg : Nat → Int32} {fn : Nat → Int32} {ki : Nat → Int32} {nu : Nat → Int32} {fi : Nat → Int32} {se : Nat → Int32} {ju : Nat → Int32} {op : Nat → Int32} {en : Nat} {sm : Nat} {ob : Nat} {be : Nat → Int32} {af : Nat → Int32} {pl : Int32} {rf : Int32} {rp : Int32} {rs : Nat} {ra : Nat} {rb : Int32} {rl : Nat} (hlT : l.stackTraces = false) (sa : Nat → Nat) (b : Int32) (n : Nat) (hn : n ≤ 32) (h0 : 0 < ob) (ho : ob ≤ 6) : KX D (tyL cI cZ cJ) l yX4_run wsX4_run 6 137 [.ref (ad 0), .int b, .int (nI n)] (wC ad cI cZ tg fn ki nu fi se ju op en sm ob be af pl rf rp rs ra rb rl) (wC ad cI cZ tg fn ki nu fi se ju op en sm ob be af pl rf rp rs ra rb rl) nIAE sa := by
  refine KX.of (cc := cX4_run) (nL := 3) (ret := (some .int)) (by decide +kernel) rfl (Nat.le_of_ble_eq_true rfl) ?_
  have i4 : ∀ w ∈ u_ws RX4 TX4 4, w ∈ wsX4_run := by decide +kernel
  refine v_iload_n 1 rfl dX4_run_0 rfl rfl ?_
  refine v_if_ltN (a := n) 10 4 rfl dX4_run_1 (by decide) (by omega) ?_
  refine v_iload_n 5 rfl dX4_run_4 rfl rfl ?_
  refine v_bipush (v := nI 32) 7 rfl dX4_run_5 (by decide) ?_
  refine v_icmp_leN (a := n) (b := 32) 20 10 rfl dX4_run_7 (by decide) (by omega) (by omega) (fun c7 => ?_) (fun q => False.elim (by omega))
  refine v_aload_n 21 rfl dX4_run_20 rfl rfl ?_
  refine v_get (ci := 4) (C := RX4) (T := TX4) (N := 4) (v := .ref (ad 4)) 24 rfl 0 1 dX4_run_21 rfl (Nat.le_of_ble_eq_true rfl) i4 (by decide +kernel) rfl rfl ?_
  refine v_callF (n := 0) (q0 := 4) (ci := 1) 27 rfl (c_hasOpenBlocks (by omega)) gX4_run_X1_hasOpenBlocks rfl (by decide +kernel) rfl ⟨(Nat.le_of_ble_eq_true rfl), (Nat.le_of_ble_eq_true rfl)⟩ rfl (Nat.le_of_ble_eq_true rfl) rfl rfl rfl dX4_run_24 ⟨Nat.zero_le _, Nat.zero_le _⟩ rfl ?_
  refine v_st (st' := [.int (bI (decide (0 < ob)))]) rfl ?_
  refine v_top (v' := bI true) (by rw [decide_eq_true h0]) ?_
  refine v_if_eqB (b := true) 40 30 rfl dX4_run_27 (by decide) (fun q => False.elim (by cases q)) (fun c27 => ?_)
  exact v_thr (E := nIAE) (ik := 97) (is := 107) (ic := 101) (j := sa 1) (text := "the program has open blocks") hlT rfl (by decide +kernel) (by decide +kernel) hwgnIAE hbdnIAE hgdnIAE (fun U h => h.2.2.2.1) (fun U h => h.2.1) (by decide +kernel) dX4_run_30 dX4_run_33 dX4_run_34 dX4_run_36 dX4_run_39 (Nat.le_of_ble_eq_true rfl) (Nat.le_of_ble_eq_true rfl) rfl

set_option maxRecDepth 100000 in
set_option maxHeartbeats 4000000 in
theorem c_runISE {D : va_G} {cI cZ cJ : ClassId} {l : Launch} {ad : Nat → Nat} {tg : Nat → Int32} {fn : Nat → Int32} {ki : Nat → Int32} {nu : Nat → Int32} {fi : Nat → Int32} {se : Nat → Int32} {ju : Nat → Int32} {op : Nat → Int32} {en : Nat} {sm : Nat} {ob : Nat} {be : Nat → Int32} {af : Nat → Int32} {pl : Int32} {rf : Int32} {rp : Int32} {rs : Nat} {ra : Nat} {rb : Int32} {rl : Nat} (hlT : l.stackTraces = false) (sa : Nat → Nat) {rp1 rb1 : Int32} {rs1 ra1 rl1 : Nat} (b : Int32) (n F : Nat) (hF : F < 2 ^ 31) (hF0 : F ≠ 0) (hn : n ≤ 32) (hob : ob = 0) (hM : KM D (tyL cI cZ cJ) l yX3_runProgram wsX3_runProgram 5 113 [.ref (ad 14), .int b, .int (nI n)] (wC ad cI cZ tg fn ki nu fi se ju op en sm ob be af pl rf rp rs ra rb rl) none (wC ad cI cZ tg fn ki nu fi se ju op en sm ob be af pl (nI F) rp1 rs1 ra1 rb1 rl1))  : KX D (tyL cI cZ cJ) l yX4_run wsX4_run 6 137 [.ref (ad 0), .int b, .int (nI n)] (wC ad cI cZ tg fn ki nu fi se ju op en sm ob be af pl rf rp rs ra rb rl) (wC ad cI cZ tg fn ki nu fi se ju op en sm ob be af pl (nI F) rp1 rs1 ra1 rb1 rl1) nISE sa := by
  refine KX.of (cc := cX4_run) (nL := 3) (ret := (some .int)) (by decide +kernel) rfl (Nat.le_of_ble_eq_true rfl) ?_
  have i3 : ∀ w ∈ u_ws RX3 TX3 8, w ∈ wsX4_run := by decide +kernel
  have i4 : ∀ w ∈ u_ws RX4 TX4 4, w ∈ wsX4_run := by decide +kernel
  refine v_iload_n 1 rfl dX4_run_0 rfl rfl ?_
  refine v_if_ltN (a := n) 10 4 rfl dX4_run_1 (by decide) (by omega) ?_
  refine v_iload_n 5 rfl dX4_run_4 rfl rfl ?_
  refine v_bipush (v := nI 32) 7 rfl dX4_run_5 (by decide) ?_
  refine v_icmp_leN (a := n) (b := 32) 20 10 rfl dX4_run_7 (by decide) (by omega) (by omega) (fun c7 => ?_) (fun q => False.elim (by omega))
  refine v_aload_n 21 rfl dX4_run_20 rfl rfl ?_
  refine v_get (ci := 4) (C := RX4) (T := TX4) (N := 4) (v := .ref (ad 4)) 24 rfl 0 1 dX4_run_21 rfl (Nat.le_of_ble_eq_true rfl) i4 (by decide +kernel) rfl rfl ?_
  refine v_callF (n := 0) (q0 := 4) (ci := 1) 27 rfl (c_hasOpenBlocks (by omega)) gX4_run_X1_hasOpenBlocks rfl (by decide +kernel) rfl ⟨(Nat.le_of_ble_eq_true rfl), (Nat.le_of_ble_eq_true rfl)⟩ rfl (Nat.le_of_ble_eq_true rfl) rfl rfl rfl dX4_run_24 ⟨Nat.zero_le _, Nat.zero_le _⟩ rfl ?_
  refine v_st (st' := [.int (bI (decide (0 < ob)))]) rfl ?_
  refine v_top (v' := bI false) (by subst hob; rfl) ?_
  refine v_if_eqB (b := false) 40 30 rfl dX4_run_27 (by decide) (fun c27 => ?_) (fun q => False.elim (by cases q))
  refine v_aload_n 41 rfl dX4_run_40 rfl rfl ?_
  refine v_get (ci := 4) (C := RX4) (T := TX4) (N := 4) (v := .ref (ad 14)) 44 rfl 0 3 dX4_run_41 rfl (Nat.le_of_ble_eq_true rfl) i4 (by decide +kernel) rfl rfl ?_
  refine v_iload_n 45 rfl dX4_run_44 rfl rfl ?_
  refine v_iload_n 46 rfl dX4_run_45 rfl rfl ?_
  refine v_callF (n := 2) (q0 := 14) (ci := 3) 49 rfl (hM) gX4_run_X3_runProgram rfl (by decide +kernel) rfl ⟨(Nat.le_of_ble_eq_true rfl), (Nat.le_of_ble_eq_true rfl)⟩ rfl (Nat.le_of_ble_eq_true rfl) rfl rfl rfl dX4_run_46 ⟨Nat.zero_le _, Nat.zero_le _⟩ rfl ?_
  refine v_st (st' := []) rfl ?_
  refine v_aload_n 50 rfl dX4_run_49 rfl rfl ?_
  refine v_get (ci := 4) (C := RX4) (T := TX4) (N := 4) (v := .ref (ad 14)) 53 rfl 0 3 dX4_run_50 rfl (Nat.le_of_ble_eq_true rfl) i4 (by decide +kernel) rfl rfl ?_
  refine v_getN (ci := 3) (C := RX3) (T := TX3) (N := 8) (v := .int (nI F)) 56 rfl 14 2 dX4_run_53 rfl (Nat.le_of_ble_eq_true rfl) i3 (by decide +kernel) rfl rfl ?_
  refine v_if_eqN (a := F) 69 59 rfl dX4_run_56 (by decide) (by omega) (fun q => False.elim (by omega)) (fun c56 => ?_)
  exact v_thr (E := nISE) (ik := 116) (is := 118) (ic := 120) (j := sa 2) (text := "the run has a fault") hlT rfl (by decide +kernel) (by decide +kernel) hwgnISE hbdnISE hgdnISE (fun U h => h.2.2.2.2.1) (fun U h => h.2.2.1) (by decide +kernel) dX4_run_59 dX4_run_62 dX4_run_63 dX4_run_65 dX4_run_68 (Nat.le_of_ble_eq_true rfl) (Nat.le_of_ble_eq_true rfl) rfl
