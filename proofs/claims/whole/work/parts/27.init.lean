/-! constructors: worlds that grow -/
abbrev rmC (fr lo mc ms : Nat) : Room := { frames := fr, cells := mc, slots := ms, locals := lo }
def KCPost (D : va_G) (w : va_W) (Pr : va_W → Prop) (sz : Nat) (st : State) (oc : Outcome) (t : State) : Prop := ∃ w', Pr w' ∧ oc = .returned none ∧ va_P D vwCl w' t.heap ∧ va_D (va_A w sz) w' ∧ va_F (va_A w sz) st t
def KC (D : va_G) (tys : List (ClassId × FieldType)) (l : Launch) (y : MethodName) (ws : List Cond) (fr lo mc ms : Nat) (av : List Value) (w : va_W) (Pr : va_W → Prop) : Prop :=
  ∀ sz : Nat, Met l y ws (rmC fr lo mc ms) (va_Pc av (KPre D tys w sz)) (fun _ st oc t => KCPost D w Pr sz st oc t) mc ms (va_A w sz)
abbrev xC (D : va_G) (tys : List (ClassId × FieldType)) (l : Launch) (fr lo mc ms : Nat) (w : va_W) (Pr : va_W → Prop) : XX := (D, tys, l, rmC fr lo mc ms, w, (fun args below s => MQ below (fun _ st oc t => KCPost D w Pr s.heap.size st oc t) args s mc ms (va_A w s.heap.size)), (fun _ _ => True))
theorem KC.of {D : va_G} {tys : List (ClassId × FieldType)} {l : Launch} {y : MethodName} {ws ws' : List Cond} {fr lo mc ms : Nat} {av : List Value} {w : va_W} {Pr : va_W → Prop} {cc : ByteArray} {nL : Nat} (hy : plainName y.cls = true) (hw : ws = Cond.code y cc nL none :: ws') (hlen : (lg_sl av).length ≤ nL)
    (body : V (xC D tys l fr lo mc ms w Pr) (cc, ws, y.cls, nL, none, y.name) 0 0 w 0 (lv_args 0 av) []) : KC D tys l y ws fr lo mc ms av w Pr := by
  intro sz
  refine Met.ofW (cc := cc) (maxL := nL) (ret := none) hy hw ?_
  intro p e s m args below meth c s₁ B hml hv
  obtain ⟨rfl, hsz, hP, hK, hN, hD0⟩ := hv
  subst hsz
  have hl := lv_entry av (n := nL) hlen
  rw [lg_entry_eq]
  exact body p e s m av.toArray below meth c ⟨B.exec, B.bytes, hml, findClass_of_methodNamed B.named, atoms_spec (ws := ws) B.pre, hK, hN, B.notSynchronized, B.returns, (name_of_methodNamed B.named B.method).1, trivial⟩ s.heap [] _ hP hD0.self va_S.rf hl
section KCR
variable {x : XX} {k : KI} {cs ss : Nat} {w : va_W} {pc : Nat} {lv : List (Nat × Value)} {st : List Value}
theorem v_vretC {D : va_G} {tys : List (ClassId × FieldType)} {l : Launch} {fr lo mc ms : Nat} {w0 : va_W} {Pr : va_W → Prop} (hd : decode k.1 pc = .ok (.return_, 1)) (hr : kR k = none) (hv : Pr w) : V (xC D tys l fr lo mc ms w0 Pr) k mc ms w pc lv [] := by
  intro p e s m args below meth c Z H locs ls hP hD hS hl
  have hlocks := Z.2.2.2.2.2.2.2.1
  show W p l e (rmC fr lo mc ms) s m args below meth c H locs mc ms (MQ below (fun _ st oc t => KCPost D w0 Pr s.heap.size st oc t) args s mc ms (va_A w0 s.heap.size)) (F0 m pc ls [])
  exact W.vret Z.1 Z.2.1 (Z.2.2.2.2.2.2.2.2.1.trans hr) (fun t ht hW => ⟨_, hv, rfl, by rw [ht]; exact hP, hD, hS.F ht⟩) hS.2.2 hd
theorem v_objI {a idx : Nat} (pc' : Nat) (hp : pc + 3 = pc') (hd : decode k.1 pc = .ok (.invokespecial idx, 3)) (h1 : Cond.methodLink (kO k) idx objectInit ∈ kT k) (h2 : Cond.instanceMethod objectInit ∈ kT k) (h3 : Cond.code objectInit ⟨#[0xb1]⟩ 1 none ∈ kT k) (hf : 1 ≤ (xR x).frames) (hlo : 20 ≤ (xR x).locals) (hcat : (st.map fun v => v.category).sum ≤ 8) (h : V x k cs ss w pc' lv st) : V x k cs ss w pc lv (.ref a :: st) := by
  subst hp
  intro p e s m args below meth c Z H locs ls hP hD hS hl
  refine W.objInit (a := a) (rest := st) Z.1 Z.2.1 Z.2.2.2.1 (Z.2.2.2.2.1 _ h1) (Z.2.2.2.2.1 _ h2) (Z.2.2.2.2.1 _ h3) rfl (hl.1.trans Z.2.2.1.symm) rfl hd hf ?_ (h p e s m args below meth c Z H locs ls hP hD hS hl)
  have : 2 * (F0 m pc ls (.ref a :: st)).monitorRoom + (st.map fun v => v.category).sum ≤ 8 := lv_room hcat
  exact Nat.le_trans (Nat.add_le_add_right this 12) hlo
theorem v_new {C : String} {T : u_T} {ty0 : Nat → FieldType} {N ci idx : Nat} {fs : List Value} (pc' : Nat) (hp : pc + 3 = pc') (hd : decode k.1 pc = .ok (.new idx, 3)) (hc : vwCl[ci]? = some (C, T, N)) (hin : ∀ w ∈ u_ws C T N, w ∈ kT k) (hty : ∀ k, k < N → parseFieldDescriptor (T k).2.2.1 = some (ty0 k)) (hcl : Cond.classLink (kO k) idx C ∈ kT k) (hinst : Cond.instantiable C N ∈ kT k) (hini : Cond.initialized C ∈ kT k) (hfs : ∀ j, j < N → defaultValue (ty0 j) = vp_V fs j) (hcs : cs + 1 ≤ (xR x).cells) (hss : ss + N ≤ (xR x).slots)
    (h : ∀ q, V x k (cs + 1) (ss + N) (w ++ [(q, .inr (ci, fs))]) pc' lv (.ref q :: st)) : V x k cs ss w pc lv st := by
  subst hp
  intro p e s m args below meth c Z H locs ls hP hD hS hl
  exact va_new Z.1 Z.2.1 Z.2.2.2.2.1 hin ty0 hty Z.2.2.2.1 (Z.2.2.2.2.1 _ hcl) (Z.2.2.2.2.1 _ hinst) (Z.2.2.2.2.1 _ hini) Z.2.2.2.2.2.1 hP hD hS (fun q hq => Or.inr hq) hc hfs hcs hss hd (fun q H1 hP1 hD1 hS1 => h q p e s m args below meth c Z H1 locs ls hP1 hD1 hS1 hl)
theorem v_newa {atype : ArrayType} {ty : FieldType} {cT : ClassId} {n : Int32} {N' : Nat} {a0 : vp_A} (pc' : Nat) (hp : pc + 2 = pc') (t0 : Nat) (hd : decode k.1 pc = .ok (.newarray atype, 2)) (harr : Cond.arrayClass (newarray.typeOf atype) ∈ kT k) (hty : newarray.typeOf atype = ty) (ht : (xT x)[t0]? = some (cT, ty)) (hra : ∀ (U : State) (c : ClassId), va_RA U c ty → U.vm.findClass ("[" ++ ty.toString) = some c) (ha : ∀ cA : ClassId, vp_cell cA a0 = arrV cA N' (fun _ => defaultValue ty)) (hn : ¬ n < 0) (hN : n.toNatClampNeg = N') (hbytes : N' * componentBytes ty ≤ 536870912) (hcs : cs + 1 ≤ (xR x).cells) (hss : ss + N' ≤ (xR x).slots)
    (h : ∀ q, V x k (cs + 1) (ss + N') (w ++ [(q, .inl (cT, a0))]) pc' lv (.ref q :: st)) : V x k cs ss w pc lv (.int n :: st) := by
  subst hp
  intro p e s m args below meth c Z H locs ls hP hD hS hl
  have hK := Z.2.2.2.2.2.1
  refine va_newa Z.1 Z.2.1 (Z.2.2.2.2.1 _ harr) hty hK hP hD hS (fun q hq => Or.inr hq) ha hn hN hbytes hcs hss hd (fun q cA H1 hK1 hP1 hD1 hS1 => ?_)
  have e1 := hra s _ (hK.2 t0 _ ht).2
  have e2 := hra s cA (hK1.2 (xT x).length (cA, ty) (by rw [List.getElem?_append_right (Nat.le_refl _), Nat.sub_self]; rfl)).2
  have e3 : cA = cT := Option.some.inj (e2.symm.trans e1)
  subst e3
  exact h q p e s m args below meth c Z H1 locs ls hP1 hD1 hS1 hl
end KCR
theorem k_coreN {D : va_G} {H H1 : Heap} {locs L' : List Loc} {L wc w' : va_W} {H0 : Heap} {A0 : Nat → Prop} (hb : va_P D vwCl w' H1) (hDw : va_D (va_A wc H.size) w') (hz : H.size ≤ H1.size) (hk : ∀ q : Nat, q < H.size → ¬ va_A wc H.size q → H1[q]? = H[q]?) (hL : ∀ q ∈ L', va_A wc H.size q.base)
    (hP : va_P D vwCl (L ++ wc) H) (hD : va_D A0 (L ++ wc)) (hS : va_S A0 H0 H locs) (hA : ∀ q, H0.size ≤ q → A0 q) :
    va_P D vwCl (L ++ w') H1 ∧ va_D A0 (L ++ w') ∧ va_S A0 H0 H1 (locs ++ L') := by
  have hF : ∀ q, va_A wc H.size q → A0 q := k_sub (L := L) (wc := wc) (Rr := []) (by simpa using hP) (by simpa using hD) hS hA
  have apart : ∀ (i : Nat) (q : Nat × va_E), L[i]? = some q → q.1 < H.size ∧ ¬ va_A wc H.size q.1 := by
    intro i q hq
    have hil : i < L.length := (List.getElem?_eq_some_iff.mp hq).1
    have hq' : (L ++ wc)[i]? = some q := by rw [List.getElem?_append_left hil]; exact hq
    have hlt := (hP i q hq').lt
    refine ⟨hlt, ?_⟩
    rintro (⟨j, e0, hj⟩ | hj)
    · have hj' : (L ++ wc)[L.length + j]? = some (q.1, e0) := by rw [List.getElem?_append_right (by omega), show L.length + j - L.length = j by omega]; exact hj
      have := hD.1 i (L.length + j) q (q.1, e0) hq' hj' rfl
      omega
    · omega
  refine ⟨?_, ⟨?_, ?_⟩, Nat.le_trans hS.1 hz, fun q h1 h2 => by rw [hk q (Nat.lt_of_lt_of_le h1 hS.1) (fun z => h2 (hF q z))]; exact hS.2.1 q h1 h2, fun q hq => by
      rcases List.mem_append.mp hq with h | h
      · exact hS.2.2 q h
      · exact hF _ (hL q h)⟩
  · intro i q hq
    by_cases h1 : i < L.length
    · rw [List.getElem?_append_left h1] at hq
      obtain ⟨g1, g2⟩ := apart i q hq
      exact (hP i q (by rw [List.getElem?_append_left h1]; exact hq)).kept (hk q.1 g1 g2)
    · rw [List.getElem?_append_right (by omega)] at hq
      exact hb _ q hq
  · intro i j a b ha hb hab
    by_cases h1 : i < L.length
    · rw [List.getElem?_append_left h1] at ha
      by_cases h2 : j < L.length
      · rw [List.getElem?_append_left h2] at hb
        exact hD.1 i j a b (by rw [List.getElem?_append_left h1]; exact ha) (by rw [List.getElem?_append_left h2]; exact hb) hab
      · rw [List.getElem?_append_right (by omega)] at hb
        exact absurd (hDw.2 _ b hb) (by rw [← hab]; exact (apart i a ha).2)
    · rw [List.getElem?_append_right (by omega)] at ha
      by_cases h2 : j < L.length
      · rw [List.getElem?_append_left h2] at hb
        exact absurd (hDw.2 _ a ha) (by rw [hab]; exact (apart j b hb).2)
      · rw [List.getElem?_append_right (by omega)] at hb
        have := hDw.1 _ _ a b ha hb hab
        omega
  · intro i q hq
    by_cases h1 : i < L.length
    · exact hD.2 i q (by rw [List.getElem?_append_left h1] at hq ⊢; exact hq)
    · rw [List.getElem?_append_right (by omega)] at hq
      exact hF _ (hDw.2 _ q hq)
section KCC
variable {x : XX} {k : KI} {cs ss : Nat} {w : va_W} {pc : Nat} {lv : List (Nat × Value)} {st : List Value}
/-- a constructor's call, over the newest cell -/
theorem v_callI {y : MethodName} {wsY wsr : List Cond} {fr lo mc ms maxL n idx b : Nat} {bytes : ByteArray} {As : List Value} {Pr : va_W → Prop} {S : List Value} (L wc : va_W) (pc' : Nat) (hp : pc + 3 = pc') (hM : KC (xD x) (xT x) (xl x) y wsY fr lo mc ms (.ref b :: As) wc Pr) (hg : GoodIn (kT k) wsY) (hwy : wsY = Cond.code y bytes maxL none :: wsr) (hini : Cond.initialized y.cls ∈ kT k) (hlk : Cond.methodLink (kO k) idx y ∈ kT k) (hins : Cond.instanceMethod y ∈ kT k) (hnm : y.name = "<init>")
    (hdc : y.cls ≠ "java/lang/invoke/MethodHandle" ∧ y.cls ≠ "java/lang/invoke/VarHandle" ∧ (parseMethodDescriptor y.desc).map (fun d => d.parameters.length) = some n) (hn : As.length = n) (hR : fr + 1 ≤ (xR x).frames ∧ 8 + (maxL + 11) + lo ≤ (xR x).locals) (hst : S = As.reverse ++ .ref b :: st) (hcat : (st.map fun v => v.category).sum ≤ 8)
    (hd : decode k.1 pc = .ok (.invokespecial idx, 3)) (hcs : cs + mc ≤ (xR x).cells ∧ ss + ms ≤ (xR x).slots) (hw : w = L ++ wc) (h : ∀ w', Pr w' → V x k (cs + mc) (ss + ms) (L ++ w') pc' lv st) : V x k cs ss w pc lv S := by
  subst hp
  subst hw
  subst hst
  intro p e s m args below meth c Z H locs ls hP hD hS hl
  have hPc : va_P (xD x) vwCl wc H := va_P.mid (L := L) (wc := wc) (Rr := []) (by simpa using hP)
  have hDc : va_D (fun _ => True) wc := va_D.mid (L := L) (wc := wc) (Rr := []) (by simpa using hD)
  have hts := Z.2.2.2.2.1
  have hr := va_runI (R := xR x) (e := e) (below := below) (meth := meth) (H := H) (locs := locs) (cells := cs) (slots := ss) (g := F0 m pc ls (As.reverse ++ .ref b :: st)) (As := As) (rest := st) (b := b) (n := n) ⟨Z.1, Z.2.1, Z.2.2.1, Z.2.2.2.1, hts⟩ (hM H.size) (cwI n hts hg hwy rfl rfl (hts _ hini) (hts _ hlk) (hts _ hins) hnm hdc hR) ⟨KPre.blind, fun U hU hW => ⟨rfl, by rw [hU], by rw [hU]; exact hPc, va_K.moved hW.alike Z.2.2.2.2.2.1, NW.warm hW Z.2.2.2.2.2.2.1, hDc⟩⟩ rfl hn hl.1 rfl (lv_room hcat) hd hcs
  intro T hT X
  obtain ⟨v, st₀, t, T', L', h0, X', hL, e1, e2, ⟨w', hPr, hv, hb, hDw, hz, hk⟩, st'⟩ := hr T hT X
  cases hv
  rw [h0] at hz hk
  obtain ⟨k1, k2, k3⟩ := k_coreN (H1 := T'.heap) (by rw [e1]; exact hb) hDw (by rw [e1]; exact hz) (fun q h1 h2 => by rw [e1]; exact hk q h1 h2) hL hP hD hS (fun q hq => Or.inr hq)
  obtain ⟨t2, a1, b1⟩ := h w' hPr p e s m args below meth c Z T'.heap (locs ++ L') ls k1 k2 k3 hl T' rfl X'
  exact ⟨t2, st' t2 a1, b1⟩
end KCC

set_option maxRecDepth 100000 in
set_option maxHeartbeats 4000000 in
theorem i_protocols {D : va_G} {cI cZ cJ : ClassId} {l : Launch} (a : Nat) : KC D (tyL cI cZ cJ) l yX2_init wsX2_init 1 23 2 120 [.ref a] ([(a, .inr (2, [.null, .null]))]) (fun w' => ∃ q1 q2 : Nat, w' = [(a, .inr (2, [.ref q1, .ref q2])), (q1, .inl (cI, 96, .inl (fillF (fun _ => 0) 96 (-1)))), (q2, .inl (cZ, 24, .inl (fun _ => 0)))]) := by
  refine KC.of (cc := cX2_init) (nL := 1) (by decide +kernel) rfl (Nat.le_of_ble_eq_true rfl) ?_
  have i2 : ∀ w ∈ u_ws RX2 TX2 2, w ∈ wsX2_init := by decide +kernel
  refine v_aload_n 1 rfl dX2_init_0 rfl rfl ?_
  refine v_objI 4 rfl dX2_init_1 (by decide +kernel) (by decide +kernel) (by decide +kernel) (Nat.le_of_ble_eq_true rfl) (Nat.le_of_ble_eq_true rfl) (Nat.le_of_ble_eq_true rfl) ?_
  refine v_aload_n 5 rfl dX2_init_4 rfl rfl ?_
  refine v_bipush (v := nI 96) 7 rfl dX2_init_5 (by decide) ?_
  refine v_newa (ty := .int) (cT := cI) (N' := 96) (a0 := (96, .inl fun _ => 0)) 9 rfl 0 dX2_init_7 (by decide +kernel) rfl rfl (fun _ _ h => h) (fun _ => rfl) (by decide) (by decide) (by decide) (Nat.le_of_ble_eq_true rfl) (Nat.le_of_ble_eq_true rfl) (fun q1 => ?_)
  refine v_w (w' := [(a, .inr (2, [.null, .null])), (q1, .inl (cI, 96, .inl (fun _ => 0)))]) rfl ?_
  refine v_st (st' := [.ref q1, .ref a]) rfl ?_
  refine v_putF (ci := 2) (C := RX2) (T := TX2) (ty0 := tyX2) (N := 2) (ty := (.array .int)) (w' := [(a, .inr (2, [.ref q1, .null])), (q1, .inl (cI, 96, .inl (fun _ => 0)))]) 12 rfl 0 0 dX2_init_9 rfl (Nat.le_of_ble_eq_true rfl) i2 tyX2_ok nmX2 (by decide +kernel) rfl rfl rfl (by decide +kernel) rfl rfl rfl (Nat.le_of_ble_eq_true rfl) rfl ?_
  refine v_aload_n 13 rfl dX2_init_12 rfl rfl ?_
  refine v_bipush (v := nI 24) 15 rfl dX2_init_13 (by decide) ?_
  refine v_newa (ty := .boolean) (cT := cZ) (N' := 24) (a0 := (24, .inl fun _ => 0)) 17 rfl 1 dX2_init_15 (by decide +kernel) rfl rfl (fun _ _ h => h) (fun _ => rfl) (by decide) (by decide) (by decide) (Nat.le_of_ble_eq_true rfl) (Nat.le_of_ble_eq_true rfl) (fun q2 => ?_)
  refine v_w (w' := [(a, .inr (2, [.ref q1, .null])), (q1, .inl (cI, 96, .inl (fun _ => 0))), (q2, .inl (cZ, 24, .inl (fun _ => 0)))]) rfl ?_
  refine v_st (st' := [.ref q2, .ref a]) rfl ?_
  refine v_putF (ci := 2) (C := RX2) (T := TX2) (ty0 := tyX2) (N := 2) (ty := (.array .boolean)) (w' := [(a, .inr (2, [.ref q1, .ref q2])), (q1, .inl (cI, 96, .inl (fun _ => 0))), (q2, .inl (cZ, 24, .inl (fun _ => 0)))]) 20 rfl 0 1 dX2_init_17 rfl (Nat.le_of_ble_eq_true rfl) i2 tyX2_ok nmX2 (by decide +kernel) rfl rfl rfl (by decide +kernel) rfl rfl rfl (Nat.le_of_ble_eq_true rfl) rfl ?_
  refine v_aload_n 21 rfl dX2_init_20 rfl rfl ?_
  refine v_get (ci := 2) (C := RX2) (T := TX2) (N := 2) (v := .ref q1) 24 rfl 0 0 dX2_init_21 rfl (Nat.le_of_ble_eq_true rfl) i2 (by decide +kernel) rfl rfl ?_
  refine v_iconst (v := -1) 25 rfl dX2_init_24 (by decide) ?_
  refine v_callSF (n := 2) 28 rfl (c_fill ([(a, .inr (2, [.ref q1, .ref q2])), (q1, .inl (cI, 96, .inl (fun _ => 0))), (q2, .inl (cZ, 24, .inl (fun _ => 0)))]) 1 q1 96 (fun _ => 0) (-1) rfl (by decide)) gX2_init_J7_fill_53178 rfl (by decide +kernel) rfl ⟨(Nat.le_of_ble_eq_true rfl), (Nat.le_of_ble_eq_true rfl)⟩ rfl (Nat.le_of_ble_eq_true rfl) dX2_init_25 ⟨(Nat.le_of_ble_eq_true rfl), (Nat.le_of_ble_eq_true rfl)⟩ rfl ?_
  refine v_w (w' := [(a, .inr (2, [.ref q1, .ref q2])), (q1, .inl (cI, 96, .inl (fillF (fun _ => 0) 96 (-1)))), (q2, .inl (cZ, 24, .inl (fun _ => 0)))]) rfl ?_
  refine v_st (st' := []) rfl ?_
  exact v_vretC dX2_init_28 rfl ⟨q1, q2, rfl⟩

set_option maxRecDepth 100000 in
set_option maxHeartbeats 4000000 in
theorem i_program {D : va_G} {cI cZ cJ : ClassId} {l : Launch} (a : Nat) : KC D (tyL cI cZ cJ) l yX1_init wsX1_init 1 20 6 606 [.ref a] ([(a, .inr (1, [.null, .null, .null, .null, .null, .null, .int 0, .int 0, .int 0]))]) (fun w' => ∃ q1 q2 q3 q4 q5 q6 : Nat, w' = [(a, .inr (1, [.ref q1, .ref q2, .ref q3, .ref q4, .ref q5, .ref q6, .int 0, .int 0, .int 0])), (q1, .inl (cI, 120, .inl (fun _ => 0))), (q2, .inl (cI, 120, .inl (fun _ => 0))), (q3, .inl (cI, 120, .inl (fun _ => 0))), (q4, .inl (cI, 120, .inl (fun _ => 0))), (q5, .inl (cI, 120, .inl (fun _ => 0))), (q6, .inl (cI, 6, .inl (fun _ => 0)))]) := by
  refine KC.of (cc := cX1_init) (nL := 1) (by decide +kernel) rfl (Nat.le_of_ble_eq_true rfl) ?_
  have i1 : ∀ w ∈ u_ws RX1 TX1 9, w ∈ wsX1_init := by decide +kernel
  refine v_aload_n 1 rfl dX1_init_0 rfl rfl ?_
  refine v_objI 4 rfl dX1_init_1 (by decide +kernel) (by decide +kernel) (by decide +kernel) (Nat.le_of_ble_eq_true rfl) (Nat.le_of_ble_eq_true rfl) (Nat.le_of_ble_eq_true rfl) ?_
  refine v_aload_n 5 rfl dX1_init_4 rfl rfl ?_
  refine v_bipush (v := nI 120) 7 rfl dX1_init_5 (by decide) ?_
  refine v_newa (ty := .int) (cT := cI) (N' := 120) (a0 := (120, .inl fun _ => 0)) 9 rfl 0 dX1_init_7 (by decide +kernel) rfl rfl (fun _ _ h => h) (fun _ => rfl) (by decide) (by decide) (by decide) (Nat.le_of_ble_eq_true rfl) (Nat.le_of_ble_eq_true rfl) (fun q1 => ?_)
  refine v_w (w' := [(a, .inr (1, [.null, .null, .null, .null, .null, .null, .int 0, .int 0, .int 0])), (q1, .inl (cI, 120, .inl (fun _ => 0)))]) rfl ?_
  refine v_st (st' := [.ref q1, .ref a]) rfl ?_
  refine v_putF (ci := 1) (C := RX1) (T := TX1) (ty0 := tyX1) (N := 9) (ty := (.array .int)) (w' := [(a, .inr (1, [.ref q1, .null, .null, .null, .null, .null, .int 0, .int 0, .int 0])), (q1, .inl (cI, 120, .inl (fun _ => 0)))]) 12 rfl 0 0 dX1_init_9 rfl (Nat.le_of_ble_eq_true rfl) i1 tyX1_ok nmX1 (by decide +kernel) rfl rfl rfl (by decide +kernel) rfl rfl rfl (Nat.le_of_ble_eq_true rfl) rfl ?_
  refine v_aload_n 13 rfl dX1_init_12 rfl rfl ?_
  refine v_bipush (v := nI 120) 15 rfl dX1_init_13 (by decide) ?_
  refine v_newa (ty := .int) (cT := cI) (N' := 120) (a0 := (120, .inl fun _ => 0)) 17 rfl 0 dX1_init_15 (by decide +kernel) rfl rfl (fun _ _ h => h) (fun _ => rfl) (by decide) (by decide) (by decide) (Nat.le_of_ble_eq_true rfl) (Nat.le_of_ble_eq_true rfl) (fun q2 => ?_)
  refine v_w (w' := [(a, .inr (1, [.ref q1, .null, .null, .null, .null, .null, .int 0, .int 0, .int 0])), (q1, .inl (cI, 120, .inl (fun _ => 0))), (q2, .inl (cI, 120, .inl (fun _ => 0)))]) rfl ?_
  refine v_st (st' := [.ref q2, .ref a]) rfl ?_
  refine v_putF (ci := 1) (C := RX1) (T := TX1) (ty0 := tyX1) (N := 9) (ty := (.array .int)) (w' := [(a, .inr (1, [.ref q1, .ref q2, .null, .null, .null, .null, .int 0, .int 0, .int 0])), (q1, .inl (cI, 120, .inl (fun _ => 0))), (q2, .inl (cI, 120, .inl (fun _ => 0)))]) 20 rfl 0 1 dX1_init_17 rfl (Nat.le_of_ble_eq_true rfl) i1 tyX1_ok nmX1 (by decide +kernel) rfl rfl rfl (by decide +kernel) rfl rfl rfl (Nat.le_of_ble_eq_true rfl) rfl ?_
  refine v_aload_n 21 rfl dX1_init_20 rfl rfl ?_
  refine v_bipush (v := nI 120) 23 rfl dX1_init_21 (by decide) ?_
  refine v_newa (ty := .int) (cT := cI) (N' := 120) (a0 := (120, .inl fun _ => 0)) 25 rfl 0 dX1_init_23 (by decide +kernel) rfl rfl (fun _ _ h => h) (fun _ => rfl) (by decide) (by decide) (by decide) (Nat.le_of_ble_eq_true rfl) (Nat.le_of_ble_eq_true rfl) (fun q3 => ?_)
  refine v_w (w' := [(a, .inr (1, [.ref q1, .ref q2, .null, .null, .null, .null, .int 0, .int 0, .int 0])), (q1, .inl (cI, 120, .inl (fun _ => 0))), (q2, .inl (cI, 120, .inl (fun _ => 0))), (q3, .inl (cI, 120, .inl (fun _ => 0)))]) rfl ?_
  refine v_st (st' := [.ref q3, .ref a]) rfl ?_
  refine v_putF (ci := 1) (C := RX1) (T := TX1) (ty0 := tyX1) (N := 9) (ty := (.array .int)) (w' := [(a, .inr (1, [.ref q1, .ref q2, .ref q3, .null, .null, .null, .int 0, .int 0, .int 0])), (q1, .inl (cI, 120, .inl (fun _ => 0))), (q2, .inl (cI, 120, .inl (fun _ => 0))), (q3, .inl (cI, 120, .inl (fun _ => 0)))]) 28 rfl 0 2 dX1_init_25 rfl (Nat.le_of_ble_eq_true rfl) i1 tyX1_ok nmX1 (by decide +kernel) rfl rfl rfl (by decide +kernel) rfl rfl rfl (Nat.le_of_ble_eq_true rfl) rfl ?_
  refine v_aload_n 29 rfl dX1_init_28 rfl rfl ?_
  refine v_bipush (v := nI 120) 31 rfl dX1_init_29 (by decide) ?_
  refine v_newa (ty := .int) (cT := cI) (N' := 120) (a0 := (120, .inl fun _ => 0)) 33 rfl 0 dX1_init_31 (by decide +kernel) rfl rfl (fun _ _ h => h) (fun _ => rfl) (by decide) (by decide) (by decide) (Nat.le_of_ble_eq_true rfl) (Nat.le_of_ble_eq_true rfl) (fun q4 => ?_)
  refine v_w (w' := [(a, .inr (1, [.ref q1, .ref q2, .ref q3, .null, .null, .null, .int 0, .int 0, .int 0])), (q1, .inl (cI, 120, .inl (fun _ => 0))), (q2, .inl (cI, 120, .inl (fun _ => 0))), (q3, .inl (cI, 120, .inl (fun _ => 0))), (q4, .inl (cI, 120, .inl (fun _ => 0)))]) rfl ?_
  refine v_st (st' := [.ref q4, .ref a]) rfl ?_
  refine v_putF (ci := 1) (C := RX1) (T := TX1) (ty0 := tyX1) (N := 9) (ty := (.array .int)) (w' := [(a, .inr (1, [.ref q1, .ref q2, .ref q3, .ref q4, .null, .null, .int 0, .int 0, .int 0])), (q1, .inl (cI, 120, .inl (fun _ => 0))), (q2, .inl (cI, 120, .inl (fun _ => 0))), (q3, .inl (cI, 120, .inl (fun _ => 0))), (q4, .inl (cI, 120, .inl (fun _ => 0)))]) 36 rfl 0 3 dX1_init_33 rfl (Nat.le_of_ble_eq_true rfl) i1 tyX1_ok nmX1 (by decide +kernel) rfl rfl rfl (by decide +kernel) rfl rfl rfl (Nat.le_of_ble_eq_true rfl) rfl ?_
  refine v_aload_n 37 rfl dX1_init_36 rfl rfl ?_
  refine v_bipush (v := nI 120) 39 rfl dX1_init_37 (by decide) ?_
  refine v_newa (ty := .int) (cT := cI) (N' := 120) (a0 := (120, .inl fun _ => 0)) 41 rfl 0 dX1_init_39 (by decide +kernel) rfl rfl (fun _ _ h => h) (fun _ => rfl) (by decide) (by decide) (by decide) (Nat.le_of_ble_eq_true rfl) (Nat.le_of_ble_eq_true rfl) (fun q5 => ?_)
  refine v_w (w' := [(a, .inr (1, [.ref q1, .ref q2, .ref q3, .ref q4, .null, .null, .int 0, .int 0, .int 0])), (q1, .inl (cI, 120, .inl (fun _ => 0))), (q2, .inl (cI, 120, .inl (fun _ => 0))), (q3, .inl (cI, 120, .inl (fun _ => 0))), (q4, .inl (cI, 120, .inl (fun _ => 0))), (q5, .inl (cI, 120, .inl (fun _ => 0)))]) rfl ?_
  refine v_st (st' := [.ref q5, .ref a]) rfl ?_
  refine v_putF (ci := 1) (C := RX1) (T := TX1) (ty0 := tyX1) (N := 9) (ty := (.array .int)) (w' := [(a, .inr (1, [.ref q1, .ref q2, .ref q3, .ref q4, .ref q5, .null, .int 0, .int 0, .int 0])), (q1, .inl (cI, 120, .inl (fun _ => 0))), (q2, .inl (cI, 120, .inl (fun _ => 0))), (q3, .inl (cI, 120, .inl (fun _ => 0))), (q4, .inl (cI, 120, .inl (fun _ => 0))), (q5, .inl (cI, 120, .inl (fun _ => 0)))]) 44 rfl 0 4 dX1_init_41 rfl (Nat.le_of_ble_eq_true rfl) i1 tyX1_ok nmX1 (by decide +kernel) rfl rfl rfl (by decide +kernel) rfl rfl rfl (Nat.le_of_ble_eq_true rfl) rfl ?_
  refine v_aload_n 45 rfl dX1_init_44 rfl rfl ?_
  refine v_bipush (v := nI 6) 47 rfl dX1_init_45 (by decide) ?_
  refine v_newa (ty := .int) (cT := cI) (N' := 6) (a0 := (6, .inl fun _ => 0)) 49 rfl 0 dX1_init_47 (by decide +kernel) rfl rfl (fun _ _ h => h) (fun _ => rfl) (by decide) (by decide) (by decide) (Nat.le_of_ble_eq_true rfl) (Nat.le_of_ble_eq_true rfl) (fun q6 => ?_)
  refine v_w (w' := [(a, .inr (1, [.ref q1, .ref q2, .ref q3, .ref q4, .ref q5, .null, .int 0, .int 0, .int 0])), (q1, .inl (cI, 120, .inl (fun _ => 0))), (q2, .inl (cI, 120, .inl (fun _ => 0))), (q3, .inl (cI, 120, .inl (fun _ => 0))), (q4, .inl (cI, 120, .inl (fun _ => 0))), (q5, .inl (cI, 120, .inl (fun _ => 0))), (q6, .inl (cI, 6, .inl (fun _ => 0)))]) rfl ?_
  refine v_st (st' := [.ref q6, .ref a]) rfl ?_
  refine v_putF (ci := 1) (C := RX1) (T := TX1) (ty0 := tyX1) (N := 9) (ty := (.array .int)) (w' := [(a, .inr (1, [.ref q1, .ref q2, .ref q3, .ref q4, .ref q5, .ref q6, .int 0, .int 0, .int 0])), (q1, .inl (cI, 120, .inl (fun _ => 0))), (q2, .inl (cI, 120, .inl (fun _ => 0))), (q3, .inl (cI, 120, .inl (fun _ => 0))), (q4, .inl (cI, 120, .inl (fun _ => 0))), (q5, .inl (cI, 120, .inl (fun _ => 0))), (q6, .inl (cI, 6, .inl (fun _ => 0)))]) 52 rfl 0 5 dX1_init_49 rfl (Nat.le_of_ble_eq_true rfl) i1 tyX1_ok nmX1 (by decide +kernel) rfl rfl rfl (by decide +kernel) rfl rfl rfl (Nat.le_of_ble_eq_true rfl) rfl ?_
  exact v_vretC dX1_init_52 rfl ⟨q1, q2, q3, q4, q5, q6, rfl⟩

set_option maxRecDepth 100000 in
set_option maxHeartbeats 4000000 in
theorem i_checking {D : va_G} {cI cZ cJ : ClassId} {l : Launch} (a p1 p2 : Nat) : KC D (tyL cI cZ cJ) l yX0_init wsX0_init 1 23 2 80 [.ref a, .ref p1, .ref p2] ([(a, .inr (0, [.null, .null, .null, .null, .int 0]))]) (fun w' => ∃ q1 q2 : Nat, w' = [(a, .inr (0, [.ref p1, .ref p2, .ref q1, .ref q2, .int (-1)])), (q1, .inl (cI, 40, .inl (fillF (fun _ => 0) 40 (-1)))), (q2, .inl (cI, 40, .inl (fun _ => 0)))]) := by
  refine KC.of (cc := cX0_init) (nL := 3) (by decide +kernel) rfl (Nat.le_of_ble_eq_true rfl) ?_
  have i0 : ∀ w ∈ u_ws RX0 TX0 5, w ∈ wsX0_init := by decide +kernel
  refine v_aload_n 1 rfl dX0_init_0 rfl rfl ?_
  refine v_objI 4 rfl dX0_init_1 (by decide +kernel) (by decide +kernel) (by decide +kernel) (Nat.le_of_ble_eq_true rfl) (Nat.le_of_ble_eq_true rfl) (Nat.le_of_ble_eq_true rfl) ?_
  refine v_aload_n 5 rfl dX0_init_4 rfl rfl ?_
  refine v_aload_n 6 rfl dX0_init_5 rfl rfl ?_
  refine v_putF (ci := 0) (C := RX0) (T := TX0) (ty0 := tyX0) (N := 5) (ty := (.object "StateTypes$Program")) (w' := [(a, .inr (0, [.ref p1, .null, .null, .null, .int 0]))]) 9 rfl 0 0 dX0_init_6 rfl (Nat.le_of_ble_eq_true rfl) i0 tyX0_ok nmX0 (by decide +kernel) rfl rfl rfl (by decide +kernel) rfl rfl rfl (Nat.le_of_ble_eq_true rfl) rfl ?_
  refine v_aload_n 10 rfl dX0_init_9 rfl rfl ?_
  refine v_aload_n 11 rfl dX0_init_10 rfl rfl ?_
  refine v_putF (ci := 0) (C := RX0) (T := TX0) (ty0 := tyX0) (N := 5) (ty := (.object "StateTypes$Protocols")) (w' := [(a, .inr (0, [.ref p1, .ref p2, .null, .null, .int 0]))]) 14 rfl 0 1 dX0_init_11 rfl (Nat.le_of_ble_eq_true rfl) i0 tyX0_ok nmX0 (by decide +kernel) rfl rfl rfl (by decide +kernel) rfl rfl rfl (Nat.le_of_ble_eq_true rfl) rfl ?_
  refine v_aload_n 15 rfl dX0_init_14 rfl rfl ?_
  refine v_bipush (v := nI 40) 17 rfl dX0_init_15 (by decide) ?_
  refine v_newa (ty := .int) (cT := cI) (N' := 40) (a0 := (40, .inl fun _ => 0)) 19 rfl 0 dX0_init_17 (by decide +kernel) rfl rfl (fun _ _ h => h) (fun _ => rfl) (by decide) (by decide) (by decide) (Nat.le_of_ble_eq_true rfl) (Nat.le_of_ble_eq_true rfl) (fun q1 => ?_)
  refine v_w (w' := [(a, .inr (0, [.ref p1, .ref p2, .null, .null, .int 0])), (q1, .inl (cI, 40, .inl (fun _ => 0)))]) rfl ?_
  refine v_st (st' := [.ref q1, .ref a]) rfl ?_
  refine v_putF (ci := 0) (C := RX0) (T := TX0) (ty0 := tyX0) (N := 5) (ty := (.array .int)) (w' := [(a, .inr (0, [.ref p1, .ref p2, .ref q1, .null, .int 0])), (q1, .inl (cI, 40, .inl (fun _ => 0)))]) 22 rfl 0 2 dX0_init_19 rfl (Nat.le_of_ble_eq_true rfl) i0 tyX0_ok nmX0 (by decide +kernel) rfl rfl rfl (by decide +kernel) rfl rfl rfl (Nat.le_of_ble_eq_true rfl) rfl ?_
  refine v_aload_n 23 rfl dX0_init_22 rfl rfl ?_
  refine v_bipush (v := nI 40) 25 rfl dX0_init_23 (by decide) ?_
  refine v_newa (ty := .int) (cT := cI) (N' := 40) (a0 := (40, .inl fun _ => 0)) 27 rfl 0 dX0_init_25 (by decide +kernel) rfl rfl (fun _ _ h => h) (fun _ => rfl) (by decide) (by decide) (by decide) (Nat.le_of_ble_eq_true rfl) (Nat.le_of_ble_eq_true rfl) (fun q2 => ?_)
  refine v_w (w' := [(a, .inr (0, [.ref p1, .ref p2, .ref q1, .null, .int 0])), (q1, .inl (cI, 40, .inl (fun _ => 0))), (q2, .inl (cI, 40, .inl (fun _ => 0)))]) rfl ?_
  refine v_st (st' := [.ref q2, .ref a]) rfl ?_
  refine v_putF (ci := 0) (C := RX0) (T := TX0) (ty0 := tyX0) (N := 5) (ty := (.array .int)) (w' := [(a, .inr (0, [.ref p1, .ref p2, .ref q1, .ref q2, .int 0])), (q1, .inl (cI, 40, .inl (fun _ => 0))), (q2, .inl (cI, 40, .inl (fun _ => 0)))]) 30 rfl 0 3 dX0_init_27 rfl (Nat.le_of_ble_eq_true rfl) i0 tyX0_ok nmX0 (by decide +kernel) rfl rfl rfl (by decide +kernel) rfl rfl rfl (Nat.le_of_ble_eq_true rfl) rfl ?_
  refine v_aload_n 31 rfl dX0_init_30 rfl rfl ?_
  refine v_iconst (v := -1) 32 rfl dX0_init_31 (by decide) ?_
  refine v_put (ci := 0) (C := RX0) (T := TX0) (ty0 := tyX0) (N := 5) (ty := .int) (w' := [(a, .inr (0, [.ref p1, .ref p2, .ref q1, .ref q2, .int (-1)])), (q1, .inl (cI, 40, .inl (fun _ => 0))), (q2, .inl (cI, 40, .inl (fun _ => 0)))]) 35 rfl 0 4 dX0_init_32 rfl (Nat.le_of_ble_eq_true rfl) i0 tyX0_ok nmX0 (by decide +kernel) rfl (by decide +kernel) rfl rfl rfl (Nat.le_of_ble_eq_true rfl) rfl ?_
  refine v_aload_n 36 rfl dX0_init_35 rfl rfl ?_
  refine v_get (ci := 0) (C := RX0) (T := TX0) (N := 5) (v := .ref q1) 39 rfl 0 2 dX0_init_36 rfl (Nat.le_of_ble_eq_true rfl) i0 (by decide +kernel) rfl rfl ?_
  refine v_iconst (v := -1) 40 rfl dX0_init_39 (by decide) ?_
  refine v_callSF (n := 2) 43 rfl (c_fill ([(a, .inr (0, [.ref p1, .ref p2, .ref q1, .ref q2, .int (-1)])), (q1, .inl (cI, 40, .inl (fun _ => 0))), (q2, .inl (cI, 40, .inl (fun _ => 0)))]) 1 q1 40 (fun _ => 0) (-1) rfl (by decide)) gX0_init_J7_fill_53178 rfl (by decide +kernel) rfl ⟨(Nat.le_of_ble_eq_true rfl), (Nat.le_of_ble_eq_true rfl)⟩ rfl (Nat.le_of_ble_eq_true rfl) dX0_init_40 ⟨(Nat.le_of_ble_eq_true rfl), (Nat.le_of_ble_eq_true rfl)⟩ rfl ?_
  refine v_w (w' := [(a, .inr (0, [.ref p1, .ref p2, .ref q1, .ref q2, .int (-1)])), (q1, .inl (cI, 40, .inl (fillF (fun _ => 0) 40 (-1)))), (q2, .inl (cI, 40, .inl (fun _ => 0)))]) rfl ?_
  refine v_st (st' := []) rfl ?_
  exact v_vretC dX0_init_43 rfl ⟨q1, q2, rfl⟩

set_option maxRecDepth 100000 in
set_option maxHeartbeats 4000000 in
theorem i_running {D : va_G} {cI cZ cJ : ClassId} {l : Launch} (a p1 p2 : Nat) : KC D (tyL cI cZ cJ) l yX3_init wsX3_init 1 20 0 0 [.ref a, .ref p1, .ref p2] ([(a, .inr (3, [.null, .null, .int 0, .int 0, .int 0, .int 0, .int 0, .int 0]))]) (fun w' => w' = [(a, .inr (3, [.ref p1, .ref p2, .int (nI 0), .int (-1), .int 0, .int (nI 0), .int 0, .int 0]))]) := by
  refine KC.of (cc := cX3_init) (nL := 3) (by decide +kernel) rfl (Nat.le_of_ble_eq_true rfl) ?_
  have i3 : ∀ w ∈ u_ws RX3 TX3 8, w ∈ wsX3_init := by decide +kernel
  refine v_aload_n 1 rfl dX3_init_0 rfl rfl ?_
  refine v_objI 4 rfl dX3_init_1 (by decide +kernel) (by decide +kernel) (by decide +kernel) (Nat.le_of_ble_eq_true rfl) (Nat.le_of_ble_eq_true rfl) (Nat.le_of_ble_eq_true rfl) ?_
  refine v_aload_n 5 rfl dX3_init_4 rfl rfl ?_
  refine v_aload_n 6 rfl dX3_init_5 rfl rfl ?_
  refine v_putF (ci := 3) (C := RX3) (T := TX3) (ty0 := tyX3) (N := 8) (ty := (.object "StateTypes$Program")) (w' := [(a, .inr (3, [.ref p1, .null, .int 0, .int 0, .int 0, .int 0, .int 0, .int 0]))]) 9 rfl 0 0 dX3_init_6 rfl (Nat.le_of_ble_eq_true rfl) i3 tyX3_ok nmX3 (by decide +kernel) rfl rfl rfl (by decide +kernel) rfl rfl rfl (Nat.le_of_ble_eq_true rfl) rfl ?_
  refine v_aload_n 10 rfl dX3_init_9 rfl rfl ?_
  refine v_aload_n 11 rfl dX3_init_10 rfl rfl ?_
  refine v_putF (ci := 3) (C := RX3) (T := TX3) (ty0 := tyX3) (N := 8) (ty := (.object "StateTypes$Protocols")) (w' := [(a, .inr (3, [.ref p1, .ref p2, .int 0, .int 0, .int 0, .int 0, .int 0, .int 0]))]) 14 rfl 0 1 dX3_init_11 rfl (Nat.le_of_ble_eq_true rfl) i3 tyX3_ok nmX3 (by decide +kernel) rfl rfl rfl (by decide +kernel) rfl rfl rfl (Nat.le_of_ble_eq_true rfl) rfl ?_
  refine v_aload_n 15 rfl dX3_init_14 rfl rfl ?_
  refine v_iconst (v := nI 0) 16 rfl dX3_init_15 (by decide) ?_
  refine v_put (ci := 3) (C := RX3) (T := TX3) (ty0 := tyX3) (N := 8) (ty := .int) (w' := [(a, .inr (3, [.ref p1, .ref p2, .int (nI 0), .int 0, .int 0, .int 0, .int 0, .int 0]))]) 19 rfl 0 2 dX3_init_16 rfl (Nat.le_of_ble_eq_true rfl) i3 tyX3_ok nmX3 (by decide +kernel) rfl (by decide +kernel) rfl rfl rfl (Nat.le_of_ble_eq_true rfl) rfl ?_
  refine v_aload_n 20 rfl dX3_init_19 rfl rfl ?_
  refine v_iconst (v := -1) 21 rfl dX3_init_20 (by decide) ?_
  refine v_put (ci := 3) (C := RX3) (T := TX3) (ty0 := tyX3) (N := 8) (ty := .int) (w' := [(a, .inr (3, [.ref p1, .ref p2, .int (nI 0), .int (-1), .int 0, .int 0, .int 0, .int 0]))]) 24 rfl 0 3 dX3_init_21 rfl (Nat.le_of_ble_eq_true rfl) i3 tyX3_ok nmX3 (by decide +kernel) rfl (by decide +kernel) rfl rfl rfl (Nat.le_of_ble_eq_true rfl) rfl ?_
  refine v_aload_n 25 rfl dX3_init_24 rfl rfl ?_
  refine v_iconst (v := nI 0) 26 rfl dX3_init_25 (by decide) ?_
  refine v_put (ci := 3) (C := RX3) (T := TX3) (ty0 := tyX3) (N := 8) (ty := .int) (w' := [(a, .inr (3, [.ref p1, .ref p2, .int (nI 0), .int (-1), .int 0, .int (nI 0), .int 0, .int 0]))]) 29 rfl 0 5 dX3_init_26 rfl (Nat.le_of_ble_eq_true rfl) i3 tyX3_ok nmX3 (by decide +kernel) rfl (by decide +kernel) rfl rfl rfl (Nat.le_of_ble_eq_true rfl) rfl ?_
  exact v_vretC dX3_init_29 rfl rfl

set_option maxRecDepth 100000 in
set_option maxHeartbeats 4000000 in
theorem i_class {D : va_G} {cI cZ cJ : ClassId} {l : Launch} (a : Nat) : KC D (tyL cI cZ cJ) l yX4_init wsX4_init 2 45 14 830 [.ref a] ([(a, .inr (4, [.null, .null, .null, .null]))]) (fun w' => ∃ ad : Nat → Nat, ad 0 = a ∧ w' = wC ad cI cZ (fillF (fun _ => 0) 96 (-1)) (fun _ => 0) (fun _ => 0) (fun _ => 0) (fun _ => 0) (fun _ => 0) (fun _ => 0) (fun _ => 0) 0 0 0 (fillF (fun _ => 0) 40 (-1)) (fun _ => 0) (-1) (nI 0) (-1) 0 0 0 0) := by
  refine KC.of (cc := cX4_init) (nL := 1) (by decide +kernel) rfl (Nat.le_of_ble_eq_true rfl) ?_
  have i0 : ∀ w ∈ u_ws RX0 TX0 5, w ∈ wsX4_init := by decide +kernel
  have i1 : ∀ w ∈ u_ws RX1 TX1 9, w ∈ wsX4_init := by decide +kernel
  have i2 : ∀ w ∈ u_ws RX2 TX2 2, w ∈ wsX4_init := by decide +kernel
  have i3 : ∀ w ∈ u_ws RX3 TX3 8, w ∈ wsX4_init := by decide +kernel
  have i4 : ∀ w ∈ u_ws RX4 TX4 4, w ∈ wsX4_init := by decide +kernel
  refine v_aload_n 1 rfl dX4_init_0 rfl rfl ?_
  refine v_objI 4 rfl dX4_init_1 (by decide +kernel) (by decide +kernel) (by decide +kernel) (Nat.le_of_ble_eq_true rfl) (Nat.le_of_ble_eq_true rfl) (Nat.le_of_ble_eq_true rfl) ?_
  refine v_aload_n 5 rfl dX4_init_4 rfl rfl ?_
  refine v_new (ci := 2) (C := RX2) (T := TX2) (ty0 := tyX2) (N := 2) (fs := [.null, .null]) 8 rfl dX4_init_5 rfl i2 tyX2_ok (by decide +kernel) (by decide +kernel) (by decide +kernel) (by decide +kernel) (Nat.le_of_ble_eq_true rfl) (Nat.le_of_ble_eq_true rfl) (fun q1 => ?_)
  refine v_w (w' := [(a, .inr (4, [.null, .null, .null, .null])), (q1, .inr (2, [.null, .null]))]) rfl ?_
  refine v_st (st' := [.ref q1, .ref a]) rfl ?_
  refine v_dup 9 rfl dX4_init_8 rfl ?_
  refine v_callI (n := 0) (As := []) ([(a, .inr (4, [.null, .null, .null, .null]))]) ([(q1, .inr (2, [.null, .null]))]) 12 rfl (i_protocols q1) gX4_init_X2_init rfl (by decide +kernel) (by decide +kernel) (by decide +kernel) rfl (by decide +kernel) rfl ⟨(Nat.le_of_ble_eq_true rfl), (Nat.le_of_ble_eq_true rfl)⟩ rfl (Nat.le_of_ble_eq_true rfl) dX4_init_9 ⟨(Nat.le_of_ble_eq_true rfl), (Nat.le_of_ble_eq_true rfl)⟩ rfl ?_
  rintro _ ⟨q2, q3, rfl⟩
  refine v_w (w' := [(a, .inr (4, [.null, .null, .null, .null])), (q1, .inr (2, [.ref q2, .ref q3])), (q2, .inl (cI, 96, .inl (fillF (fun _ => 0) 96 (-1)))), (q3, .inl (cZ, 24, .inl (fun _ => 0)))]) rfl ?_
  refine v_st (st' := [.ref q1, .ref a]) rfl ?_
  refine v_putF (ci := 4) (C := RX4) (T := TX4) (ty0 := tyX4) (N := 4) (ty := (.object "StateTypes$Protocols")) (w' := [(a, .inr (4, [.ref q1, .null, .null, .null])), (q1, .inr (2, [.ref q2, .ref q3])), (q2, .inl (cI, 96, .inl (fillF (fun _ => 0) 96 (-1)))), (q3, .inl (cZ, 24, .inl (fun _ => 0)))]) 15 rfl 0 0 dX4_init_12 rfl (Nat.le_of_ble_eq_true rfl) i4 tyX4_ok nmX4 (by decide +kernel) rfl rfl rfl (by decide +kernel) rfl rfl rfl (Nat.le_of_ble_eq_true rfl) rfl ?_
  refine v_aload_n 16 rfl dX4_init_15 rfl rfl ?_
  refine v_new (ci := 1) (C := RX1) (T := TX1) (ty0 := tyX1) (N := 9) (fs := [.null, .null, .null, .null, .null, .null, .int 0, .int 0, .int 0]) 19 rfl dX4_init_16 rfl i1 tyX1_ok (by decide +kernel) (by decide +kernel) (by decide +kernel) (by decide +kernel) (Nat.le_of_ble_eq_true rfl) (Nat.le_of_ble_eq_true rfl) (fun q4 => ?_)
  refine v_w (w' := [(a, .inr (4, [.ref q1, .null, .null, .null])), (q1, .inr (2, [.ref q2, .ref q3])), (q2, .inl (cI, 96, .inl (fillF (fun _ => 0) 96 (-1)))), (q3, .inl (cZ, 24, .inl (fun _ => 0))), (q4, .inr (1, [.null, .null, .null, .null, .null, .null, .int 0, .int 0, .int 0]))]) rfl ?_
  refine v_st (st' := [.ref q4, .ref a]) rfl ?_
  refine v_dup 20 rfl dX4_init_19 rfl ?_
  refine v_callI (n := 0) (As := []) ([(a, .inr (4, [.ref q1, .null, .null, .null])), (q1, .inr (2, [.ref q2, .ref q3])), (q2, .inl (cI, 96, .inl (fillF (fun _ => 0) 96 (-1)))), (q3, .inl (cZ, 24, .inl (fun _ => 0)))]) ([(q4, .inr (1, [.null, .null, .null, .null, .null, .null, .int 0, .int 0, .int 0]))]) 23 rfl (i_program q4) gX4_init_X1_init rfl (by decide +kernel) (by decide +kernel) (by decide +kernel) rfl (by decide +kernel) rfl ⟨(Nat.le_of_ble_eq_true rfl), (Nat.le_of_ble_eq_true rfl)⟩ rfl (Nat.le_of_ble_eq_true rfl) dX4_init_20 ⟨(Nat.le_of_ble_eq_true rfl), (Nat.le_of_ble_eq_true rfl)⟩ rfl ?_
  rintro _ ⟨q5, q6, q7, q8, q9, q10, rfl⟩
  refine v_w (w' := [(a, .inr (4, [.ref q1, .null, .null, .null])), (q1, .inr (2, [.ref q2, .ref q3])), (q2, .inl (cI, 96, .inl (fillF (fun _ => 0) 96 (-1)))), (q3, .inl (cZ, 24, .inl (fun _ => 0))), (q4, .inr (1, [.ref q5, .ref q6, .ref q7, .ref q8, .ref q9, .ref q10, .int 0, .int 0, .int 0])), (q5, .inl (cI, 120, .inl (fun _ => 0))), (q6, .inl (cI, 120, .inl (fun _ => 0))), (q7, .inl (cI, 120, .inl (fun _ => 0))), (q8, .inl (cI, 120, .inl (fun _ => 0))), (q9, .inl (cI, 120, .inl (fun _ => 0))), (q10, .inl (cI, 6, .inl (fun _ => 0)))]) rfl ?_
  refine v_st (st' := [.ref q4, .ref a]) rfl ?_
  refine v_putF (ci := 4) (C := RX4) (T := TX4) (ty0 := tyX4) (N := 4) (ty := (.object "StateTypes$Program")) (w' := [(a, .inr (4, [.ref q1, .ref q4, .null, .null])), (q1, .inr (2, [.ref q2, .ref q3])), (q2, .inl (cI, 96, .inl (fillF (fun _ => 0) 96 (-1)))), (q3, .inl (cZ, 24, .inl (fun _ => 0))), (q4, .inr (1, [.ref q5, .ref q6, .ref q7, .ref q8, .ref q9, .ref q10, .int 0, .int 0, .int 0])), (q5, .inl (cI, 120, .inl (fun _ => 0))), (q6, .inl (cI, 120, .inl (fun _ => 0))), (q7, .inl (cI, 120, .inl (fun _ => 0))), (q8, .inl (cI, 120, .inl (fun _ => 0))), (q9, .inl (cI, 120, .inl (fun _ => 0))), (q10, .inl (cI, 6, .inl (fun _ => 0)))]) 26 rfl 0 1 dX4_init_23 rfl (Nat.le_of_ble_eq_true rfl) i4 tyX4_ok nmX4 (by decide +kernel) rfl rfl rfl (by decide +kernel) rfl rfl rfl (Nat.le_of_ble_eq_true rfl) rfl ?_
  refine v_aload_n 27 rfl dX4_init_26 rfl rfl ?_
  refine v_new (ci := 0) (C := RX0) (T := TX0) (ty0 := tyX0) (N := 5) (fs := [.null, .null, .null, .null, .int 0]) 30 rfl dX4_init_27 rfl i0 tyX0_ok (by decide +kernel) (by decide +kernel) (by decide +kernel) (by decide +kernel) (Nat.le_of_ble_eq_true rfl) (Nat.le_of_ble_eq_true rfl) (fun q11 => ?_)
  refine v_w (w' := [(a, .inr (4, [.ref q1, .ref q4, .null, .null])), (q1, .inr (2, [.ref q2, .ref q3])), (q2, .inl (cI, 96, .inl (fillF (fun _ => 0) 96 (-1)))), (q3, .inl (cZ, 24, .inl (fun _ => 0))), (q4, .inr (1, [.ref q5, .ref q6, .ref q7, .ref q8, .ref q9, .ref q10, .int 0, .int 0, .int 0])), (q5, .inl (cI, 120, .inl (fun _ => 0))), (q6, .inl (cI, 120, .inl (fun _ => 0))), (q7, .inl (cI, 120, .inl (fun _ => 0))), (q8, .inl (cI, 120, .inl (fun _ => 0))), (q9, .inl (cI, 120, .inl (fun _ => 0))), (q10, .inl (cI, 6, .inl (fun _ => 0))), (q11, .inr (0, [.null, .null, .null, .null, .int 0]))]) rfl ?_
  refine v_st (st' := [.ref q11, .ref a]) rfl ?_
  refine v_dup 31 rfl dX4_init_30 rfl ?_
  refine v_aload_n 32 rfl dX4_init_31 rfl rfl ?_
  refine v_get (ci := 4) (C := RX4) (T := TX4) (N := 4) (v := .ref q4) 35 rfl 0 1 dX4_init_32 rfl (Nat.le_of_ble_eq_true rfl) i4 (by decide +kernel) rfl rfl ?_
  refine v_aload_n 36 rfl dX4_init_35 rfl rfl ?_
  refine v_get (ci := 4) (C := RX4) (T := TX4) (N := 4) (v := .ref q1) 39 rfl 0 0 dX4_init_36 rfl (Nat.le_of_ble_eq_true rfl) i4 (by decide +kernel) rfl rfl ?_
  refine v_callI (n := 2) (As := [.ref q4, .ref q1]) ([(a, .inr (4, [.ref q1, .ref q4, .null, .null])), (q1, .inr (2, [.ref q2, .ref q3])), (q2, .inl (cI, 96, .inl (fillF (fun _ => 0) 96 (-1)))), (q3, .inl (cZ, 24, .inl (fun _ => 0))), (q4, .inr (1, [.ref q5, .ref q6, .ref q7, .ref q8, .ref q9, .ref q10, .int 0, .int 0, .int 0])), (q5, .inl (cI, 120, .inl (fun _ => 0))), (q6, .inl (cI, 120, .inl (fun _ => 0))), (q7, .inl (cI, 120, .inl (fun _ => 0))), (q8, .inl (cI, 120, .inl (fun _ => 0))), (q9, .inl (cI, 120, .inl (fun _ => 0))), (q10, .inl (cI, 6, .inl (fun _ => 0)))]) ([(q11, .inr (0, [.null, .null, .null, .null, .int 0]))]) 42 rfl (i_checking q11 q4 q1) gX4_init_X0_init rfl (by decide +kernel) (by decide +kernel) (by decide +kernel) rfl (by decide +kernel) rfl ⟨(Nat.le_of_ble_eq_true rfl), (Nat.le_of_ble_eq_true rfl)⟩ rfl (Nat.le_of_ble_eq_true rfl) dX4_init_39 ⟨(Nat.le_of_ble_eq_true rfl), (Nat.le_of_ble_eq_true rfl)⟩ rfl ?_
  rintro _ ⟨q12, q13, rfl⟩
  refine v_w (w' := [(a, .inr (4, [.ref q1, .ref q4, .null, .null])), (q1, .inr (2, [.ref q2, .ref q3])), (q2, .inl (cI, 96, .inl (fillF (fun _ => 0) 96 (-1)))), (q3, .inl (cZ, 24, .inl (fun _ => 0))), (q4, .inr (1, [.ref q5, .ref q6, .ref q7, .ref q8, .ref q9, .ref q10, .int 0, .int 0, .int 0])), (q5, .inl (cI, 120, .inl (fun _ => 0))), (q6, .inl (cI, 120, .inl (fun _ => 0))), (q7, .inl (cI, 120, .inl (fun _ => 0))), (q8, .inl (cI, 120, .inl (fun _ => 0))), (q9, .inl (cI, 120, .inl (fun _ => 0))), (q10, .inl (cI, 6, .inl (fun _ => 0))), (q11, .inr (0, [.ref q4, .ref q1, .ref q12, .ref q13, .int (-1)])), (q12, .inl (cI, 40, .inl (fillF (fun _ => 0) 40 (-1)))), (q13, .inl (cI, 40, .inl (fun _ => 0)))]) rfl ?_
  refine v_st (st' := [.ref q11, .ref a]) rfl ?_
  refine v_putF (ci := 4) (C := RX4) (T := TX4) (ty0 := tyX4) (N := 4) (ty := (.object "StateTypes$Checking")) (w' := [(a, .inr (4, [.ref q1, .ref q4, .ref q11, .null])), (q1, .inr (2, [.ref q2, .ref q3])), (q2, .inl (cI, 96, .inl (fillF (fun _ => 0) 96 (-1)))), (q3, .inl (cZ, 24, .inl (fun _ => 0))), (q4, .inr (1, [.ref q5, .ref q6, .ref q7, .ref q8, .ref q9, .ref q10, .int 0, .int 0, .int 0])), (q5, .inl (cI, 120, .inl (fun _ => 0))), (q6, .inl (cI, 120, .inl (fun _ => 0))), (q7, .inl (cI, 120, .inl (fun _ => 0))), (q8, .inl (cI, 120, .inl (fun _ => 0))), (q9, .inl (cI, 120, .inl (fun _ => 0))), (q10, .inl (cI, 6, .inl (fun _ => 0))), (q11, .inr (0, [.ref q4, .ref q1, .ref q12, .ref q13, .int (-1)])), (q12, .inl (cI, 40, .inl (fillF (fun _ => 0) 40 (-1)))), (q13, .inl (cI, 40, .inl (fun _ => 0)))]) 45 rfl 0 2 dX4_init_42 rfl (Nat.le_of_ble_eq_true rfl) i4 tyX4_ok nmX4 (by decide +kernel) rfl rfl rfl (by decide +kernel) rfl rfl rfl (Nat.le_of_ble_eq_true rfl) rfl ?_
  refine v_aload_n 46 rfl dX4_init_45 rfl rfl ?_
  refine v_new (ci := 3) (C := RX3) (T := TX3) (ty0 := tyX3) (N := 8) (fs := [.null, .null, .int 0, .int 0, .int 0, .int 0, .int 0, .int 0]) 49 rfl dX4_init_46 rfl i3 tyX3_ok (by decide +kernel) (by decide +kernel) (by decide +kernel) (by decide +kernel) (Nat.le_of_ble_eq_true rfl) (Nat.le_of_ble_eq_true rfl) (fun q14 => ?_)
  refine v_w (w' := [(a, .inr (4, [.ref q1, .ref q4, .ref q11, .null])), (q1, .inr (2, [.ref q2, .ref q3])), (q2, .inl (cI, 96, .inl (fillF (fun _ => 0) 96 (-1)))), (q3, .inl (cZ, 24, .inl (fun _ => 0))), (q4, .inr (1, [.ref q5, .ref q6, .ref q7, .ref q8, .ref q9, .ref q10, .int 0, .int 0, .int 0])), (q5, .inl (cI, 120, .inl (fun _ => 0))), (q6, .inl (cI, 120, .inl (fun _ => 0))), (q7, .inl (cI, 120, .inl (fun _ => 0))), (q8, .inl (cI, 120, .inl (fun _ => 0))), (q9, .inl (cI, 120, .inl (fun _ => 0))), (q10, .inl (cI, 6, .inl (fun _ => 0))), (q11, .inr (0, [.ref q4, .ref q1, .ref q12, .ref q13, .int (-1)])), (q12, .inl (cI, 40, .inl (fillF (fun _ => 0) 40 (-1)))), (q13, .inl (cI, 40, .inl (fun _ => 0))), (q14, .inr (3, [.null, .null, .int 0, .int 0, .int 0, .int 0, .int 0, .int 0]))]) rfl ?_
  refine v_st (st' := [.ref q14, .ref a]) rfl ?_
  refine v_dup 50 rfl dX4_init_49 rfl ?_
  refine v_aload_n 51 rfl dX4_init_50 rfl rfl ?_
  refine v_get (ci := 4) (C := RX4) (T := TX4) (N := 4) (v := .ref q4) 54 rfl 0 1 dX4_init_51 rfl (Nat.le_of_ble_eq_true rfl) i4 (by decide +kernel) rfl rfl ?_
  refine v_aload_n 55 rfl dX4_init_54 rfl rfl ?_
  refine v_get (ci := 4) (C := RX4) (T := TX4) (N := 4) (v := .ref q1) 58 rfl 0 0 dX4_init_55 rfl (Nat.le_of_ble_eq_true rfl) i4 (by decide +kernel) rfl rfl ?_
  refine v_callI (n := 2) (As := [.ref q4, .ref q1]) ([(a, .inr (4, [.ref q1, .ref q4, .ref q11, .null])), (q1, .inr (2, [.ref q2, .ref q3])), (q2, .inl (cI, 96, .inl (fillF (fun _ => 0) 96 (-1)))), (q3, .inl (cZ, 24, .inl (fun _ => 0))), (q4, .inr (1, [.ref q5, .ref q6, .ref q7, .ref q8, .ref q9, .ref q10, .int 0, .int 0, .int 0])), (q5, .inl (cI, 120, .inl (fun _ => 0))), (q6, .inl (cI, 120, .inl (fun _ => 0))), (q7, .inl (cI, 120, .inl (fun _ => 0))), (q8, .inl (cI, 120, .inl (fun _ => 0))), (q9, .inl (cI, 120, .inl (fun _ => 0))), (q10, .inl (cI, 6, .inl (fun _ => 0))), (q11, .inr (0, [.ref q4, .ref q1, .ref q12, .ref q13, .int (-1)])), (q12, .inl (cI, 40, .inl (fillF (fun _ => 0) 40 (-1)))), (q13, .inl (cI, 40, .inl (fun _ => 0)))]) ([(q14, .inr (3, [.null, .null, .int 0, .int 0, .int 0, .int 0, .int 0, .int 0]))]) 61 rfl (i_running q14 q4 q1) gX4_init_X3_init rfl (by decide +kernel) (by decide +kernel) (by decide +kernel) rfl (by decide +kernel) rfl ⟨(Nat.le_of_ble_eq_true rfl), (Nat.le_of_ble_eq_true rfl)⟩ rfl (Nat.le_of_ble_eq_true rfl) dX4_init_58 ⟨(Nat.le_of_ble_eq_true rfl), (Nat.le_of_ble_eq_true rfl)⟩ rfl ?_
  rintro _ ⟨rfl⟩
  refine v_w (w' := [(a, .inr (4, [.ref q1, .ref q4, .ref q11, .null])), (q1, .inr (2, [.ref q2, .ref q3])), (q2, .inl (cI, 96, .inl (fillF (fun _ => 0) 96 (-1)))), (q3, .inl (cZ, 24, .inl (fun _ => 0))), (q4, .inr (1, [.ref q5, .ref q6, .ref q7, .ref q8, .ref q9, .ref q10, .int 0, .int 0, .int 0])), (q5, .inl (cI, 120, .inl (fun _ => 0))), (q6, .inl (cI, 120, .inl (fun _ => 0))), (q7, .inl (cI, 120, .inl (fun _ => 0))), (q8, .inl (cI, 120, .inl (fun _ => 0))), (q9, .inl (cI, 120, .inl (fun _ => 0))), (q10, .inl (cI, 6, .inl (fun _ => 0))), (q11, .inr (0, [.ref q4, .ref q1, .ref q12, .ref q13, .int (-1)])), (q12, .inl (cI, 40, .inl (fillF (fun _ => 0) 40 (-1)))), (q13, .inl (cI, 40, .inl (fun _ => 0))), (q14, .inr (3, [.ref q4, .ref q1, .int (nI 0), .int (-1), .int 0, .int (nI 0), .int 0, .int 0]))]) rfl ?_
  refine v_st (st' := [.ref q14, .ref a]) rfl ?_
  refine v_putF (ci := 4) (C := RX4) (T := TX4) (ty0 := tyX4) (N := 4) (ty := (.object "StateTypes$Running")) (w' := [(a, .inr (4, [.ref q1, .ref q4, .ref q11, .ref q14])), (q1, .inr (2, [.ref q2, .ref q3])), (q2, .inl (cI, 96, .inl (fillF (fun _ => 0) 96 (-1)))), (q3, .inl (cZ, 24, .inl (fun _ => 0))), (q4, .inr (1, [.ref q5, .ref q6, .ref q7, .ref q8, .ref q9, .ref q10, .int 0, .int 0, .int 0])), (q5, .inl (cI, 120, .inl (fun _ => 0))), (q6, .inl (cI, 120, .inl (fun _ => 0))), (q7, .inl (cI, 120, .inl (fun _ => 0))), (q8, .inl (cI, 120, .inl (fun _ => 0))), (q9, .inl (cI, 120, .inl (fun _ => 0))), (q10, .inl (cI, 6, .inl (fun _ => 0))), (q11, .inr (0, [.ref q4, .ref q1, .ref q12, .ref q13, .int (-1)])), (q12, .inl (cI, 40, .inl (fillF (fun _ => 0) 40 (-1)))), (q13, .inl (cI, 40, .inl (fun _ => 0))), (q14, .inr (3, [.ref q4, .ref q1, .int (nI 0), .int (-1), .int 0, .int (nI 0), .int 0, .int 0]))]) 64 rfl 0 3 dX4_init_61 rfl (Nat.le_of_ble_eq_true rfl) i4 tyX4_ok nmX4 (by decide +kernel) rfl rfl rfl (by decide +kernel) rfl rfl rfl (Nat.le_of_ble_eq_true rfl) rfl ?_
  exact v_vretC dX4_init_64 rfl ⟨fun i => ([a, q1, q2, q3, q4, q5, q6, q7, q8, q9, q10, q11, q12, q13, q14] : List Nat).getD i 0, rfl, rfl⟩

set_option maxRecDepth 100000 in
set_option maxHeartbeats 4000000 in
theorem i_model {D : va_G} {cI cZ cJ : ClassId} {l : Launch} (a : Nat) : KC D (tyL cI cZ cJ) l yX5_init wsX5_init 1 20 16 515 [.ref a] ([(a, .inr (5, [.null, .null, .null, .null, .null, .null, .null, .int 0, .null, .null, .int 0, .int 0, .int 0, .int 0, .int 0, .int 0, .int 0, .null, .null, .null, .null, .null, .null, .null, .int 0]))]) (fun w' => ∃ ad : Nat → Nat, ad 0 = a ∧ w' = wM ad cI cZ (fun _ => 0) (fun _ => 0) (fun _ => 0) (fun _ => 0) (fun _ => 0) (fun _ => 0) (fun _ => 0) 0 (fun _ => 0) (fun _ => 0) 0 (-1) 0 (-1) 0 0 0 (fun _ => 0) (upd (upd (upd (upd (fun _ => 0) 0 (-1)) 1 (-1)) 2 (-1)) 3 (-1)) (fun _ => 0) (fun _ => 0) (fun _ => 0) (fun _ => 0) (fun _ => 0) 0) := by
  refine KC.of (cc := cX5_init) (nL := 2) (by decide +kernel) rfl (Nat.le_of_ble_eq_true rfl) ?_
  have i5 : ∀ w ∈ u_ws RX5 TX5 25, w ∈ wsX5_init := by decide +kernel
  refine v_aload_n 1 rfl dX5_init_0 rfl rfl ?_
  refine v_objI 4 rfl dX5_init_1 (by decide +kernel) (by decide +kernel) (by decide +kernel) (Nat.le_of_ble_eq_true rfl) (Nat.le_of_ble_eq_true rfl) (Nat.le_of_ble_eq_true rfl) ?_
  refine v_aload_n 5 rfl dX5_init_4 rfl rfl ?_
  refine v_bipush (v := nI 60) 7 rfl dX5_init_5 (by decide) ?_
  refine v_newa (ty := .int) (cT := cI) (N' := 60) (a0 := (60, .inl fun _ => 0)) 9 rfl 0 dX5_init_7 (by decide +kernel) rfl rfl (fun _ _ h => h) (fun _ => rfl) (by decide) (by decide) (by decide) (Nat.le_of_ble_eq_true rfl) (Nat.le_of_ble_eq_true rfl) (fun q1 => ?_)
  refine v_w (w' := [(a, .inr (5, [.null, .null, .null, .null, .null, .null, .null, .int 0, .null, .null, .int 0, .int 0, .int 0, .int 0, .int 0, .int 0, .int 0, .null, .null, .null, .null, .null, .null, .null, .int 0])), (q1, .inl (cI, 60, .inl (fun _ => 0)))]) rfl ?_
  refine v_st (st' := [.ref q1, .ref a]) rfl ?_
  refine v_putF (ci := 5) (C := RX5) (T := TX5) (ty0 := tyX5) (N := 25) (ty := (.array .int)) (w' := [(a, .inr (5, [.ref q1, .null, .null, .null, .null, .null, .null, .int 0, .null, .null, .int 0, .int 0, .int 0, .int 0, .int 0, .int 0, .int 0, .null, .null, .null, .null, .null, .null, .null, .int 0])), (q1, .inl (cI, 60, .inl (fun _ => 0)))]) 12 rfl 0 0 dX5_init_9 rfl (Nat.le_of_ble_eq_true rfl) i5 tyX5_ok nmX5 (by decide +kernel) rfl rfl rfl (by decide +kernel) rfl rfl rfl (Nat.le_of_ble_eq_true rfl) rfl ?_
  refine v_aload_n 13 rfl dX5_init_12 rfl rfl ?_
  refine v_bipush (v := nI 15) 15 rfl dX5_init_13 (by decide) ?_
  refine v_newa (ty := .boolean) (cT := cZ) (N' := 15) (a0 := (15, .inl fun _ => 0)) 17 rfl 1 dX5_init_15 (by decide +kernel) rfl rfl (fun _ _ h => h) (fun _ => rfl) (by decide) (by decide) (by decide) (Nat.le_of_ble_eq_true rfl) (Nat.le_of_ble_eq_true rfl) (fun q2 => ?_)
  refine v_w (w' := [(a, .inr (5, [.ref q1, .null, .null, .null, .null, .null, .null, .int 0, .null, .null, .int 0, .int 0, .int 0, .int 0, .int 0, .int 0, .int 0, .null, .null, .null, .null, .null, .null, .null, .int 0])), (q1, .inl (cI, 60, .inl (fun _ => 0))), (q2, .inl (cZ, 15, .inl (fun _ => 0)))]) rfl ?_
  refine v_st (st' := [.ref q2, .ref a]) rfl ?_
  refine v_putF (ci := 5) (C := RX5) (T := TX5) (ty0 := tyX5) (N := 25) (ty := (.array .boolean)) (w' := [(a, .inr (5, [.ref q1, .ref q2, .null, .null, .null, .null, .null, .int 0, .null, .null, .int 0, .int 0, .int 0, .int 0, .int 0, .int 0, .int 0, .null, .null, .null, .null, .null, .null, .null, .int 0])), (q1, .inl (cI, 60, .inl (fun _ => 0))), (q2, .inl (cZ, 15, .inl (fun _ => 0)))]) 20 rfl 0 1 dX5_init_17 rfl (Nat.le_of_ble_eq_true rfl) i5 tyX5_ok nmX5 (by decide +kernel) rfl rfl rfl (by decide +kernel) rfl rfl rfl (Nat.le_of_ble_eq_true rfl) rfl ?_
  refine v_aload_n 21 rfl dX5_init_20 rfl rfl ?_
  refine v_bipush (v := nI 40) 23 rfl dX5_init_21 (by decide) ?_
  refine v_newa (ty := .int) (cT := cI) (N' := 40) (a0 := (40, .inl fun _ => 0)) 25 rfl 0 dX5_init_23 (by decide +kernel) rfl rfl (fun _ _ h => h) (fun _ => rfl) (by decide) (by decide) (by decide) (Nat.le_of_ble_eq_true rfl) (Nat.le_of_ble_eq_true rfl) (fun q3 => ?_)
  refine v_w (w' := [(a, .inr (5, [.ref q1, .ref q2, .null, .null, .null, .null, .null, .int 0, .null, .null, .int 0, .int 0, .int 0, .int 0, .int 0, .int 0, .int 0, .null, .null, .null, .null, .null, .null, .null, .int 0])), (q1, .inl (cI, 60, .inl (fun _ => 0))), (q2, .inl (cZ, 15, .inl (fun _ => 0))), (q3, .inl (cI, 40, .inl (fun _ => 0)))]) rfl ?_
  refine v_st (st' := [.ref q3, .ref a]) rfl ?_
  refine v_putF (ci := 5) (C := RX5) (T := TX5) (ty0 := tyX5) (N := 25) (ty := (.array .int)) (w' := [(a, .inr (5, [.ref q1, .ref q2, .ref q3, .null, .null, .null, .null, .int 0, .null, .null, .int 0, .int 0, .int 0, .int 0, .int 0, .int 0, .int 0, .null, .null, .null, .null, .null, .null, .null, .int 0])), (q1, .inl (cI, 60, .inl (fun _ => 0))), (q2, .inl (cZ, 15, .inl (fun _ => 0))), (q3, .inl (cI, 40, .inl (fun _ => 0)))]) 28 rfl 0 2 dX5_init_25 rfl (Nat.le_of_ble_eq_true rfl) i5 tyX5_ok nmX5 (by decide +kernel) rfl rfl rfl (by decide +kernel) rfl rfl rfl (Nat.le_of_ble_eq_true rfl) rfl ?_
  refine v_aload_n 29 rfl dX5_init_28 rfl rfl ?_
  refine v_bipush (v := nI 40) 31 rfl dX5_init_29 (by decide) ?_
  refine v_newa (ty := .int) (cT := cI) (N' := 40) (a0 := (40, .inl fun _ => 0)) 33 rfl 0 dX5_init_31 (by decide +kernel) rfl rfl (fun _ _ h => h) (fun _ => rfl) (by decide) (by decide) (by decide) (Nat.le_of_ble_eq_true rfl) (Nat.le_of_ble_eq_true rfl) (fun q4 => ?_)
  refine v_w (w' := [(a, .inr (5, [.ref q1, .ref q2, .ref q3, .null, .null, .null, .null, .int 0, .null, .null, .int 0, .int 0, .int 0, .int 0, .int 0, .int 0, .int 0, .null, .null, .null, .null, .null, .null, .null, .int 0])), (q1, .inl (cI, 60, .inl (fun _ => 0))), (q2, .inl (cZ, 15, .inl (fun _ => 0))), (q3, .inl (cI, 40, .inl (fun _ => 0))), (q4, .inl (cI, 40, .inl (fun _ => 0)))]) rfl ?_
  refine v_st (st' := [.ref q4, .ref a]) rfl ?_
  refine v_putF (ci := 5) (C := RX5) (T := TX5) (ty0 := tyX5) (N := 25) (ty := (.array .int)) (w' := [(a, .inr (5, [.ref q1, .ref q2, .ref q3, .ref q4, .null, .null, .null, .int 0, .null, .null, .int 0, .int 0, .int 0, .int 0, .int 0, .int 0, .int 0, .null, .null, .null, .null, .null, .null, .null, .int 0])), (q1, .inl (cI, 60, .inl (fun _ => 0))), (q2, .inl (cZ, 15, .inl (fun _ => 0))), (q3, .inl (cI, 40, .inl (fun _ => 0))), (q4, .inl (cI, 40, .inl (fun _ => 0)))]) 36 rfl 0 3 dX5_init_33 rfl (Nat.le_of_ble_eq_true rfl) i5 tyX5_ok nmX5 (by decide +kernel) rfl rfl rfl (by decide +kernel) rfl rfl rfl (Nat.le_of_ble_eq_true rfl) rfl ?_
  refine v_aload_n 37 rfl dX5_init_36 rfl rfl ?_
  refine v_bipush (v := nI 40) 39 rfl dX5_init_37 (by decide) ?_
  refine v_newa (ty := .int) (cT := cI) (N' := 40) (a0 := (40, .inl fun _ => 0)) 41 rfl 0 dX5_init_39 (by decide +kernel) rfl rfl (fun _ _ h => h) (fun _ => rfl) (by decide) (by decide) (by decide) (Nat.le_of_ble_eq_true rfl) (Nat.le_of_ble_eq_true rfl) (fun q5 => ?_)
  refine v_w (w' := [(a, .inr (5, [.ref q1, .ref q2, .ref q3, .ref q4, .null, .null, .null, .int 0, .null, .null, .int 0, .int 0, .int 0, .int 0, .int 0, .int 0, .int 0, .null, .null, .null, .null, .null, .null, .null, .int 0])), (q1, .inl (cI, 60, .inl (fun _ => 0))), (q2, .inl (cZ, 15, .inl (fun _ => 0))), (q3, .inl (cI, 40, .inl (fun _ => 0))), (q4, .inl (cI, 40, .inl (fun _ => 0))), (q5, .inl (cI, 40, .inl (fun _ => 0)))]) rfl ?_
  refine v_st (st' := [.ref q5, .ref a]) rfl ?_
  refine v_putF (ci := 5) (C := RX5) (T := TX5) (ty0 := tyX5) (N := 25) (ty := (.array .int)) (w' := [(a, .inr (5, [.ref q1, .ref q2, .ref q3, .ref q4, .ref q5, .null, .null, .int 0, .null, .null, .int 0, .int 0, .int 0, .int 0, .int 0, .int 0, .int 0, .null, .null, .null, .null, .null, .null, .null, .int 0])), (q1, .inl (cI, 60, .inl (fun _ => 0))), (q2, .inl (cZ, 15, .inl (fun _ => 0))), (q3, .inl (cI, 40, .inl (fun _ => 0))), (q4, .inl (cI, 40, .inl (fun _ => 0))), (q5, .inl (cI, 40, .inl (fun _ => 0)))]) 44 rfl 0 4 dX5_init_41 rfl (Nat.le_of_ble_eq_true rfl) i5 tyX5_ok nmX5 (by decide +kernel) rfl rfl rfl (by decide +kernel) rfl rfl rfl (Nat.le_of_ble_eq_true rfl) rfl ?_
  refine v_aload_n 45 rfl dX5_init_44 rfl rfl ?_
  refine v_bipush (v := nI 40) 47 rfl dX5_init_45 (by decide) ?_
  refine v_newa (ty := .int) (cT := cI) (N' := 40) (a0 := (40, .inl fun _ => 0)) 49 rfl 0 dX5_init_47 (by decide +kernel) rfl rfl (fun _ _ h => h) (fun _ => rfl) (by decide) (by decide) (by decide) (Nat.le_of_ble_eq_true rfl) (Nat.le_of_ble_eq_true rfl) (fun q6 => ?_)
  refine v_w (w' := [(a, .inr (5, [.ref q1, .ref q2, .ref q3, .ref q4, .ref q5, .null, .null, .int 0, .null, .null, .int 0, .int 0, .int 0, .int 0, .int 0, .int 0, .int 0, .null, .null, .null, .null, .null, .null, .null, .int 0])), (q1, .inl (cI, 60, .inl (fun _ => 0))), (q2, .inl (cZ, 15, .inl (fun _ => 0))), (q3, .inl (cI, 40, .inl (fun _ => 0))), (q4, .inl (cI, 40, .inl (fun _ => 0))), (q5, .inl (cI, 40, .inl (fun _ => 0))), (q6, .inl (cI, 40, .inl (fun _ => 0)))]) rfl ?_
  refine v_st (st' := [.ref q6, .ref a]) rfl ?_
  refine v_putF (ci := 5) (C := RX5) (T := TX5) (ty0 := tyX5) (N := 25) (ty := (.array .int)) (w' := [(a, .inr (5, [.ref q1, .ref q2, .ref q3, .ref q4, .ref q5, .ref q6, .null, .int 0, .null, .null, .int 0, .int 0, .int 0, .int 0, .int 0, .int 0, .int 0, .null, .null, .null, .null, .null, .null, .null, .int 0])), (q1, .inl (cI, 60, .inl (fun _ => 0))), (q2, .inl (cZ, 15, .inl (fun _ => 0))), (q3, .inl (cI, 40, .inl (fun _ => 0))), (q4, .inl (cI, 40, .inl (fun _ => 0))), (q5, .inl (cI, 40, .inl (fun _ => 0))), (q6, .inl (cI, 40, .inl (fun _ => 0)))]) 52 rfl 0 5 dX5_init_49 rfl (Nat.le_of_ble_eq_true rfl) i5 tyX5_ok nmX5 (by decide +kernel) rfl rfl rfl (by decide +kernel) rfl rfl rfl (Nat.le_of_ble_eq_true rfl) rfl ?_
  refine v_aload_n 53 rfl dX5_init_52 rfl rfl ?_
  refine v_bipush (v := nI 40) 55 rfl dX5_init_53 (by decide) ?_
  refine v_newa (ty := .int) (cT := cI) (N' := 40) (a0 := (40, .inl fun _ => 0)) 57 rfl 0 dX5_init_55 (by decide +kernel) rfl rfl (fun _ _ h => h) (fun _ => rfl) (by decide) (by decide) (by decide) (Nat.le_of_ble_eq_true rfl) (Nat.le_of_ble_eq_true rfl) (fun q7 => ?_)
  refine v_w (w' := [(a, .inr (5, [.ref q1, .ref q2, .ref q3, .ref q4, .ref q5, .ref q6, .null, .int 0, .null, .null, .int 0, .int 0, .int 0, .int 0, .int 0, .int 0, .int 0, .null, .null, .null, .null, .null, .null, .null, .int 0])), (q1, .inl (cI, 60, .inl (fun _ => 0))), (q2, .inl (cZ, 15, .inl (fun _ => 0))), (q3, .inl (cI, 40, .inl (fun _ => 0))), (q4, .inl (cI, 40, .inl (fun _ => 0))), (q5, .inl (cI, 40, .inl (fun _ => 0))), (q6, .inl (cI, 40, .inl (fun _ => 0))), (q7, .inl (cI, 40, .inl (fun _ => 0)))]) rfl ?_
  refine v_st (st' := [.ref q7, .ref a]) rfl ?_
  refine v_putF (ci := 5) (C := RX5) (T := TX5) (ty0 := tyX5) (N := 25) (ty := (.array .int)) (w' := [(a, .inr (5, [.ref q1, .ref q2, .ref q3, .ref q4, .ref q5, .ref q6, .ref q7, .int 0, .null, .null, .int 0, .int 0, .int 0, .int 0, .int 0, .int 0, .int 0, .null, .null, .null, .null, .null, .null, .null, .int 0])), (q1, .inl (cI, 60, .inl (fun _ => 0))), (q2, .inl (cZ, 15, .inl (fun _ => 0))), (q3, .inl (cI, 40, .inl (fun _ => 0))), (q4, .inl (cI, 40, .inl (fun _ => 0))), (q5, .inl (cI, 40, .inl (fun _ => 0))), (q6, .inl (cI, 40, .inl (fun _ => 0))), (q7, .inl (cI, 40, .inl (fun _ => 0)))]) 60 rfl 0 6 dX5_init_57 rfl (Nat.le_of_ble_eq_true rfl) i5 tyX5_ok nmX5 (by decide +kernel) rfl rfl rfl (by decide +kernel) rfl rfl rfl (Nat.le_of_ble_eq_true rfl) rfl ?_
  refine v_aload_n 61 rfl dX5_init_60 rfl rfl ?_
  refine v_bipush (v := nI 6) 63 rfl dX5_init_61 (by decide) ?_
  refine v_newa (ty := .int) (cT := cI) (N' := 6) (a0 := (6, .inl fun _ => 0)) 65 rfl 0 dX5_init_63 (by decide +kernel) rfl rfl (fun _ _ h => h) (fun _ => rfl) (by decide) (by decide) (by decide) (Nat.le_of_ble_eq_true rfl) (Nat.le_of_ble_eq_true rfl) (fun q8 => ?_)
  refine v_w (w' := [(a, .inr (5, [.ref q1, .ref q2, .ref q3, .ref q4, .ref q5, .ref q6, .ref q7, .int 0, .null, .null, .int 0, .int 0, .int 0, .int 0, .int 0, .int 0, .int 0, .null, .null, .null, .null, .null, .null, .null, .int 0])), (q1, .inl (cI, 60, .inl (fun _ => 0))), (q2, .inl (cZ, 15, .inl (fun _ => 0))), (q3, .inl (cI, 40, .inl (fun _ => 0))), (q4, .inl (cI, 40, .inl (fun _ => 0))), (q5, .inl (cI, 40, .inl (fun _ => 0))), (q6, .inl (cI, 40, .inl (fun _ => 0))), (q7, .inl (cI, 40, .inl (fun _ => 0))), (q8, .inl (cI, 6, .inl (fun _ => 0)))]) rfl ?_
  refine v_st (st' := [.ref q8, .ref a]) rfl ?_
  refine v_putF (ci := 5) (C := RX5) (T := TX5) (ty0 := tyX5) (N := 25) (ty := (.array .int)) (w' := [(a, .inr (5, [.ref q1, .ref q2, .ref q3, .ref q4, .ref q5, .ref q6, .ref q7, .int 0, .ref q8, .null, .int 0, .int 0, .int 0, .int 0, .int 0, .int 0, .int 0, .null, .null, .null, .null, .null, .null, .null, .int 0])), (q1, .inl (cI, 60, .inl (fun _ => 0))), (q2, .inl (cZ, 15, .inl (fun _ => 0))), (q3, .inl (cI, 40, .inl (fun _ => 0))), (q4, .inl (cI, 40, .inl (fun _ => 0))), (q5, .inl (cI, 40, .inl (fun _ => 0))), (q6, .inl (cI, 40, .inl (fun _ => 0))), (q7, .inl (cI, 40, .inl (fun _ => 0))), (q8, .inl (cI, 6, .inl (fun _ => 0)))]) 68 rfl 0 8 dX5_init_65 rfl (Nat.le_of_ble_eq_true rfl) i5 tyX5_ok nmX5 (by decide +kernel) rfl rfl rfl (by decide +kernel) rfl rfl rfl (Nat.le_of_ble_eq_true rfl) rfl ?_
  refine v_aload_n 69 rfl dX5_init_68 rfl rfl ?_
  refine v_bipush (v := nI 6) 71 rfl dX5_init_69 (by decide) ?_
  refine v_newa (ty := .boolean) (cT := cZ) (N' := 6) (a0 := (6, .inl fun _ => 0)) 73 rfl 1 dX5_init_71 (by decide +kernel) rfl rfl (fun _ _ h => h) (fun _ => rfl) (by decide) (by decide) (by decide) (Nat.le_of_ble_eq_true rfl) (Nat.le_of_ble_eq_true rfl) (fun q9 => ?_)
  refine v_w (w' := [(a, .inr (5, [.ref q1, .ref q2, .ref q3, .ref q4, .ref q5, .ref q6, .ref q7, .int 0, .ref q8, .null, .int 0, .int 0, .int 0, .int 0, .int 0, .int 0, .int 0, .null, .null, .null, .null, .null, .null, .null, .int 0])), (q1, .inl (cI, 60, .inl (fun _ => 0))), (q2, .inl (cZ, 15, .inl (fun _ => 0))), (q3, .inl (cI, 40, .inl (fun _ => 0))), (q4, .inl (cI, 40, .inl (fun _ => 0))), (q5, .inl (cI, 40, .inl (fun _ => 0))), (q6, .inl (cI, 40, .inl (fun _ => 0))), (q7, .inl (cI, 40, .inl (fun _ => 0))), (q8, .inl (cI, 6, .inl (fun _ => 0))), (q9, .inl (cZ, 6, .inl (fun _ => 0)))]) rfl ?_
  refine v_st (st' := [.ref q9, .ref a]) rfl ?_
  refine v_putF (ci := 5) (C := RX5) (T := TX5) (ty0 := tyX5) (N := 25) (ty := (.array .boolean)) (w' := [(a, .inr (5, [.ref q1, .ref q2, .ref q3, .ref q4, .ref q5, .ref q6, .ref q7, .int 0, .ref q8, .ref q9, .int 0, .int 0, .int 0, .int 0, .int 0, .int 0, .int 0, .null, .null, .null, .null, .null, .null, .null, .int 0])), (q1, .inl (cI, 60, .inl (fun _ => 0))), (q2, .inl (cZ, 15, .inl (fun _ => 0))), (q3, .inl (cI, 40, .inl (fun _ => 0))), (q4, .inl (cI, 40, .inl (fun _ => 0))), (q5, .inl (cI, 40, .inl (fun _ => 0))), (q6, .inl (cI, 40, .inl (fun _ => 0))), (q7, .inl (cI, 40, .inl (fun _ => 0))), (q8, .inl (cI, 6, .inl (fun _ => 0))), (q9, .inl (cZ, 6, .inl (fun _ => 0)))]) 76 rfl 0 9 dX5_init_73 rfl (Nat.le_of_ble_eq_true rfl) i5 tyX5_ok nmX5 (by decide +kernel) rfl rfl rfl (by decide +kernel) rfl rfl rfl (Nat.le_of_ble_eq_true rfl) rfl ?_
  refine v_aload_n 77 rfl dX5_init_76 rfl rfl ?_
  refine v_iconst (v := nI 4) 78 rfl dX5_init_77 (by decide) ?_
  refine v_newa (ty := .int) (cT := cI) (N' := 4) (a0 := (4, .inl fun _ => 0)) 80 rfl 0 dX5_init_78 (by decide +kernel) rfl rfl (fun _ _ h => h) (fun _ => rfl) (by decide) (by decide) (by decide) (Nat.le_of_ble_eq_true rfl) (Nat.le_of_ble_eq_true rfl) (fun q10 => ?_)
  refine v_w (w' := [(a, .inr (5, [.ref q1, .ref q2, .ref q3, .ref q4, .ref q5, .ref q6, .ref q7, .int 0, .ref q8, .ref q9, .int 0, .int 0, .int 0, .int 0, .int 0, .int 0, .int 0, .null, .null, .null, .null, .null, .null, .null, .int 0])), (q1, .inl (cI, 60, .inl (fun _ => 0))), (q2, .inl (cZ, 15, .inl (fun _ => 0))), (q3, .inl (cI, 40, .inl (fun _ => 0))), (q4, .inl (cI, 40, .inl (fun _ => 0))), (q5, .inl (cI, 40, .inl (fun _ => 0))), (q6, .inl (cI, 40, .inl (fun _ => 0))), (q7, .inl (cI, 40, .inl (fun _ => 0))), (q8, .inl (cI, 6, .inl (fun _ => 0))), (q9, .inl (cZ, 6, .inl (fun _ => 0))), (q10, .inl (cI, 4, .inl (fun _ => 0)))]) rfl ?_
  refine v_st (st' := [.ref q10, .ref a]) rfl ?_
  refine v_putF (ci := 5) (C := RX5) (T := TX5) (ty0 := tyX5) (N := 25) (ty := (.array .int)) (w' := [(a, .inr (5, [.ref q1, .ref q2, .ref q3, .ref q4, .ref q5, .ref q6, .ref q7, .int 0, .ref q8, .ref q9, .int 0, .int 0, .int 0, .int 0, .int 0, .int 0, .int 0, .ref q10, .null, .null, .null, .null, .null, .null, .int 0])), (q1, .inl (cI, 60, .inl (fun _ => 0))), (q2, .inl (cZ, 15, .inl (fun _ => 0))), (q3, .inl (cI, 40, .inl (fun _ => 0))), (q4, .inl (cI, 40, .inl (fun _ => 0))), (q5, .inl (cI, 40, .inl (fun _ => 0))), (q6, .inl (cI, 40, .inl (fun _ => 0))), (q7, .inl (cI, 40, .inl (fun _ => 0))), (q8, .inl (cI, 6, .inl (fun _ => 0))), (q9, .inl (cZ, 6, .inl (fun _ => 0))), (q10, .inl (cI, 4, .inl (fun _ => 0)))]) 83 rfl 0 17 dX5_init_80 rfl (Nat.le_of_ble_eq_true rfl) i5 tyX5_ok nmX5 (by decide +kernel) rfl rfl rfl (by decide +kernel) rfl rfl rfl (Nat.le_of_ble_eq_true rfl) rfl ?_
  refine v_aload_n 84 rfl dX5_init_83 rfl rfl ?_
  refine v_iconst (v := nI 4) 85 rfl dX5_init_84 (by decide) ?_
  refine v_newa (ty := .int) (cT := cI) (N' := 4) (a0 := (4, .inl fun _ => 0)) 87 rfl 0 dX5_init_85 (by decide +kernel) rfl rfl (fun _ _ h => h) (fun _ => rfl) (by decide) (by decide) (by decide) (Nat.le_of_ble_eq_true rfl) (Nat.le_of_ble_eq_true rfl) (fun q11 => ?_)
  refine v_w (w' := [(a, .inr (5, [.ref q1, .ref q2, .ref q3, .ref q4, .ref q5, .ref q6, .ref q7, .int 0, .ref q8, .ref q9, .int 0, .int 0, .int 0, .int 0, .int 0, .int 0, .int 0, .ref q10, .null, .null, .null, .null, .null, .null, .int 0])), (q1, .inl (cI, 60, .inl (fun _ => 0))), (q2, .inl (cZ, 15, .inl (fun _ => 0))), (q3, .inl (cI, 40, .inl (fun _ => 0))), (q4, .inl (cI, 40, .inl (fun _ => 0))), (q5, .inl (cI, 40, .inl (fun _ => 0))), (q6, .inl (cI, 40, .inl (fun _ => 0))), (q7, .inl (cI, 40, .inl (fun _ => 0))), (q8, .inl (cI, 6, .inl (fun _ => 0))), (q9, .inl (cZ, 6, .inl (fun _ => 0))), (q10, .inl (cI, 4, .inl (fun _ => 0))), (q11, .inl (cI, 4, .inl (fun _ => 0)))]) rfl ?_
  refine v_st (st' := [.ref q11, .ref a]) rfl ?_
  refine v_putF (ci := 5) (C := RX5) (T := TX5) (ty0 := tyX5) (N := 25) (ty := (.array .int)) (w' := [(a, .inr (5, [.ref q1, .ref q2, .ref q3, .ref q4, .ref q5, .ref q6, .ref q7, .int 0, .ref q8, .ref q9, .int 0, .int 0, .int 0, .int 0, .int 0, .int 0, .int 0, .ref q10, .ref q11, .null, .null, .null, .null, .null, .int 0])), (q1, .inl (cI, 60, .inl (fun _ => 0))), (q2, .inl (cZ, 15, .inl (fun _ => 0))), (q3, .inl (cI, 40, .inl (fun _ => 0))), (q4, .inl (cI, 40, .inl (fun _ => 0))), (q5, .inl (cI, 40, .inl (fun _ => 0))), (q6, .inl (cI, 40, .inl (fun _ => 0))), (q7, .inl (cI, 40, .inl (fun _ => 0))), (q8, .inl (cI, 6, .inl (fun _ => 0))), (q9, .inl (cZ, 6, .inl (fun _ => 0))), (q10, .inl (cI, 4, .inl (fun _ => 0))), (q11, .inl (cI, 4, .inl (fun _ => 0)))]) 90 rfl 0 18 dX5_init_87 rfl (Nat.le_of_ble_eq_true rfl) i5 tyX5_ok nmX5 (by decide +kernel) rfl rfl rfl (by decide +kernel) rfl rfl rfl (Nat.le_of_ble_eq_true rfl) rfl ?_
  refine v_aload_n 91 rfl dX5_init_90 rfl rfl ?_
  refine v_sipush (v := nI 160) 94 rfl dX5_init_91 (by decide) ?_
  refine v_newa (ty := .int) (cT := cI) (N' := 160) (a0 := (160, .inl fun _ => 0)) 96 rfl 0 dX5_init_94 (by decide +kernel) rfl rfl (fun _ _ h => h) (fun _ => rfl) (by decide) (by decide) (by decide) (Nat.le_of_ble_eq_true rfl) (Nat.le_of_ble_eq_true rfl) (fun q12 => ?_)
  refine v_w (w' := [(a, .inr (5, [.ref q1, .ref q2, .ref q3, .ref q4, .ref q5, .ref q6, .ref q7, .int 0, .ref q8, .ref q9, .int 0, .int 0, .int 0, .int 0, .int 0, .int 0, .int 0, .ref q10, .ref q11, .null, .null, .null, .null, .null, .int 0])), (q1, .inl (cI, 60, .inl (fun _ => 0))), (q2, .inl (cZ, 15, .inl (fun _ => 0))), (q3, .inl (cI, 40, .inl (fun _ => 0))), (q4, .inl (cI, 40, .inl (fun _ => 0))), (q5, .inl (cI, 40, .inl (fun _ => 0))), (q6, .inl (cI, 40, .inl (fun _ => 0))), (q7, .inl (cI, 40, .inl (fun _ => 0))), (q8, .inl (cI, 6, .inl (fun _ => 0))), (q9, .inl (cZ, 6, .inl (fun _ => 0))), (q10, .inl (cI, 4, .inl (fun _ => 0))), (q11, .inl (cI, 4, .inl (fun _ => 0))), (q12, .inl (cI, 160, .inl (fun _ => 0)))]) rfl ?_
  refine v_st (st' := [.ref q12, .ref a]) rfl ?_
  refine v_putF (ci := 5) (C := RX5) (T := TX5) (ty0 := tyX5) (N := 25) (ty := (.array .int)) (w' := [(a, .inr (5, [.ref q1, .ref q2, .ref q3, .ref q4, .ref q5, .ref q6, .ref q7, .int 0, .ref q8, .ref q9, .int 0, .int 0, .int 0, .int 0, .int 0, .int 0, .int 0, .ref q10, .ref q11, .ref q12, .null, .null, .null, .null, .int 0])), (q1, .inl (cI, 60, .inl (fun _ => 0))), (q2, .inl (cZ, 15, .inl (fun _ => 0))), (q3, .inl (cI, 40, .inl (fun _ => 0))), (q4, .inl (cI, 40, .inl (fun _ => 0))), (q5, .inl (cI, 40, .inl (fun _ => 0))), (q6, .inl (cI, 40, .inl (fun _ => 0))), (q7, .inl (cI, 40, .inl (fun _ => 0))), (q8, .inl (cI, 6, .inl (fun _ => 0))), (q9, .inl (cZ, 6, .inl (fun _ => 0))), (q10, .inl (cI, 4, .inl (fun _ => 0))), (q11, .inl (cI, 4, .inl (fun _ => 0))), (q12, .inl (cI, 160, .inl (fun _ => 0)))]) 99 rfl 0 19 dX5_init_96 rfl (Nat.le_of_ble_eq_true rfl) i5 tyX5_ok nmX5 (by decide +kernel) rfl rfl rfl (by decide +kernel) rfl rfl rfl (Nat.le_of_ble_eq_true rfl) rfl ?_
  refine v_aload_n 100 rfl dX5_init_99 rfl rfl ?_
  refine v_bipush (v := nI 6) 102 rfl dX5_init_100 (by decide) ?_
  refine v_newa (ty := .int) (cT := cI) (N' := 6) (a0 := (6, .inl fun _ => 0)) 104 rfl 0 dX5_init_102 (by decide +kernel) rfl rfl (fun _ _ h => h) (fun _ => rfl) (by decide) (by decide) (by decide) (Nat.le_of_ble_eq_true rfl) (Nat.le_of_ble_eq_true rfl) (fun q13 => ?_)
  refine v_w (w' := [(a, .inr (5, [.ref q1, .ref q2, .ref q3, .ref q4, .ref q5, .ref q6, .ref q7, .int 0, .ref q8, .ref q9, .int 0, .int 0, .int 0, .int 0, .int 0, .int 0, .int 0, .ref q10, .ref q11, .ref q12, .null, .null, .null, .null, .int 0])), (q1, .inl (cI, 60, .inl (fun _ => 0))), (q2, .inl (cZ, 15, .inl (fun _ => 0))), (q3, .inl (cI, 40, .inl (fun _ => 0))), (q4, .inl (cI, 40, .inl (fun _ => 0))), (q5, .inl (cI, 40, .inl (fun _ => 0))), (q6, .inl (cI, 40, .inl (fun _ => 0))), (q7, .inl (cI, 40, .inl (fun _ => 0))), (q8, .inl (cI, 6, .inl (fun _ => 0))), (q9, .inl (cZ, 6, .inl (fun _ => 0))), (q10, .inl (cI, 4, .inl (fun _ => 0))), (q11, .inl (cI, 4, .inl (fun _ => 0))), (q12, .inl (cI, 160, .inl (fun _ => 0))), (q13, .inl (cI, 6, .inl (fun _ => 0)))]) rfl ?_
  refine v_st (st' := [.ref q13, .ref a]) rfl ?_
  refine v_putF (ci := 5) (C := RX5) (T := TX5) (ty0 := tyX5) (N := 25) (ty := (.array .int)) (w' := [(a, .inr (5, [.ref q1, .ref q2, .ref q3, .ref q4, .ref q5, .ref q6, .ref q7, .int 0, .ref q8, .ref q9, .int 0, .int 0, .int 0, .int 0, .int 0, .int 0, .int 0, .ref q10, .ref q11, .ref q12, .ref q13, .null, .null, .null, .int 0])), (q1, .inl (cI, 60, .inl (fun _ => 0))), (q2, .inl (cZ, 15, .inl (fun _ => 0))), (q3, .inl (cI, 40, .inl (fun _ => 0))), (q4, .inl (cI, 40, .inl (fun _ => 0))), (q5, .inl (cI, 40, .inl (fun _ => 0))), (q6, .inl (cI, 40, .inl (fun _ => 0))), (q7, .inl (cI, 40, .inl (fun _ => 0))), (q8, .inl (cI, 6, .inl (fun _ => 0))), (q9, .inl (cZ, 6, .inl (fun _ => 0))), (q10, .inl (cI, 4, .inl (fun _ => 0))), (q11, .inl (cI, 4, .inl (fun _ => 0))), (q12, .inl (cI, 160, .inl (fun _ => 0))), (q13, .inl (cI, 6, .inl (fun _ => 0)))]) 107 rfl 0 20 dX5_init_104 rfl (Nat.le_of_ble_eq_true rfl) i5 tyX5_ok nmX5 (by decide +kernel) rfl rfl rfl (by decide +kernel) rfl rfl rfl (Nat.le_of_ble_eq_true rfl) rfl ?_
  refine v_aload_n 108 rfl dX5_init_107 rfl rfl ?_
  refine v_bipush (v := nI 6) 110 rfl dX5_init_108 (by decide) ?_
  refine v_newa (ty := .boolean) (cT := cZ) (N' := 6) (a0 := (6, .inl fun _ => 0)) 112 rfl 1 dX5_init_110 (by decide +kernel) rfl rfl (fun _ _ h => h) (fun _ => rfl) (by decide) (by decide) (by decide) (Nat.le_of_ble_eq_true rfl) (Nat.le_of_ble_eq_true rfl) (fun q14 => ?_)
  refine v_w (w' := [(a, .inr (5, [.ref q1, .ref q2, .ref q3, .ref q4, .ref q5, .ref q6, .ref q7, .int 0, .ref q8, .ref q9, .int 0, .int 0, .int 0, .int 0, .int 0, .int 0, .int 0, .ref q10, .ref q11, .ref q12, .ref q13, .null, .null, .null, .int 0])), (q1, .inl (cI, 60, .inl (fun _ => 0))), (q2, .inl (cZ, 15, .inl (fun _ => 0))), (q3, .inl (cI, 40, .inl (fun _ => 0))), (q4, .inl (cI, 40, .inl (fun _ => 0))), (q5, .inl (cI, 40, .inl (fun _ => 0))), (q6, .inl (cI, 40, .inl (fun _ => 0))), (q7, .inl (cI, 40, .inl (fun _ => 0))), (q8, .inl (cI, 6, .inl (fun _ => 0))), (q9, .inl (cZ, 6, .inl (fun _ => 0))), (q10, .inl (cI, 4, .inl (fun _ => 0))), (q11, .inl (cI, 4, .inl (fun _ => 0))), (q12, .inl (cI, 160, .inl (fun _ => 0))), (q13, .inl (cI, 6, .inl (fun _ => 0))), (q14, .inl (cZ, 6, .inl (fun _ => 0)))]) rfl ?_
  refine v_st (st' := [.ref q14, .ref a]) rfl ?_
  refine v_putF (ci := 5) (C := RX5) (T := TX5) (ty0 := tyX5) (N := 25) (ty := (.array .boolean)) (w' := [(a, .inr (5, [.ref q1, .ref q2, .ref q3, .ref q4, .ref q5, .ref q6, .ref q7, .int 0, .ref q8, .ref q9, .int 0, .int 0, .int 0, .int 0, .int 0, .int 0, .int 0, .ref q10, .ref q11, .ref q12, .ref q13, .ref q14, .null, .null, .int 0])), (q1, .inl (cI, 60, .inl (fun _ => 0))), (q2, .inl (cZ, 15, .inl (fun _ => 0))), (q3, .inl (cI, 40, .inl (fun _ => 0))), (q4, .inl (cI, 40, .inl (fun _ => 0))), (q5, .inl (cI, 40, .inl (fun _ => 0))), (q6, .inl (cI, 40, .inl (fun _ => 0))), (q7, .inl (cI, 40, .inl (fun _ => 0))), (q8, .inl (cI, 6, .inl (fun _ => 0))), (q9, .inl (cZ, 6, .inl (fun _ => 0))), (q10, .inl (cI, 4, .inl (fun _ => 0))), (q11, .inl (cI, 4, .inl (fun _ => 0))), (q12, .inl (cI, 160, .inl (fun _ => 0))), (q13, .inl (cI, 6, .inl (fun _ => 0))), (q14, .inl (cZ, 6, .inl (fun _ => 0)))]) 115 rfl 0 21 dX5_init_112 rfl (Nat.le_of_ble_eq_true rfl) i5 tyX5_ok nmX5 (by decide +kernel) rfl rfl rfl (by decide +kernel) rfl rfl rfl (Nat.le_of_ble_eq_true rfl) rfl ?_
  refine v_aload_n 116 rfl dX5_init_115 rfl rfl ?_
  refine v_bipush (v := nI 24) 118 rfl dX5_init_116 (by decide) ?_
  refine v_newa (ty := .int) (cT := cI) (N' := 24) (a0 := (24, .inl fun _ => 0)) 120 rfl 0 dX5_init_118 (by decide +kernel) rfl rfl (fun _ _ h => h) (fun _ => rfl) (by decide) (by decide) (by decide) (Nat.le_of_ble_eq_true rfl) (Nat.le_of_ble_eq_true rfl) (fun q15 => ?_)
  refine v_w (w' := [(a, .inr (5, [.ref q1, .ref q2, .ref q3, .ref q4, .ref q5, .ref q6, .ref q7, .int 0, .ref q8, .ref q9, .int 0, .int 0, .int 0, .int 0, .int 0, .int 0, .int 0, .ref q10, .ref q11, .ref q12, .ref q13, .ref q14, .null, .null, .int 0])), (q1, .inl (cI, 60, .inl (fun _ => 0))), (q2, .inl (cZ, 15, .inl (fun _ => 0))), (q3, .inl (cI, 40, .inl (fun _ => 0))), (q4, .inl (cI, 40, .inl (fun _ => 0))), (q5, .inl (cI, 40, .inl (fun _ => 0))), (q6, .inl (cI, 40, .inl (fun _ => 0))), (q7, .inl (cI, 40, .inl (fun _ => 0))), (q8, .inl (cI, 6, .inl (fun _ => 0))), (q9, .inl (cZ, 6, .inl (fun _ => 0))), (q10, .inl (cI, 4, .inl (fun _ => 0))), (q11, .inl (cI, 4, .inl (fun _ => 0))), (q12, .inl (cI, 160, .inl (fun _ => 0))), (q13, .inl (cI, 6, .inl (fun _ => 0))), (q14, .inl (cZ, 6, .inl (fun _ => 0))), (q15, .inl (cI, 24, .inl (fun _ => 0)))]) rfl ?_
  refine v_st (st' := [.ref q15, .ref a]) rfl ?_
  refine v_putF (ci := 5) (C := RX5) (T := TX5) (ty0 := tyX5) (N := 25) (ty := (.array .int)) (w' := [(a, .inr (5, [.ref q1, .ref q2, .ref q3, .ref q4, .ref q5, .ref q6, .ref q7, .int 0, .ref q8, .ref q9, .int 0, .int 0, .int 0, .int 0, .int 0, .int 0, .int 0, .ref q10, .ref q11, .ref q12, .ref q13, .ref q14, .ref q15, .null, .int 0])), (q1, .inl (cI, 60, .inl (fun _ => 0))), (q2, .inl (cZ, 15, .inl (fun _ => 0))), (q3, .inl (cI, 40, .inl (fun _ => 0))), (q4, .inl (cI, 40, .inl (fun _ => 0))), (q5, .inl (cI, 40, .inl (fun _ => 0))), (q6, .inl (cI, 40, .inl (fun _ => 0))), (q7, .inl (cI, 40, .inl (fun _ => 0))), (q8, .inl (cI, 6, .inl (fun _ => 0))), (q9, .inl (cZ, 6, .inl (fun _ => 0))), (q10, .inl (cI, 4, .inl (fun _ => 0))), (q11, .inl (cI, 4, .inl (fun _ => 0))), (q12, .inl (cI, 160, .inl (fun _ => 0))), (q13, .inl (cI, 6, .inl (fun _ => 0))), (q14, .inl (cZ, 6, .inl (fun _ => 0))), (q15, .inl (cI, 24, .inl (fun _ => 0)))]) 123 rfl 0 22 dX5_init_120 rfl (Nat.le_of_ble_eq_true rfl) i5 tyX5_ok nmX5 (by decide +kernel) rfl rfl rfl (by decide +kernel) rfl rfl rfl (Nat.le_of_ble_eq_true rfl) rfl ?_
  refine v_aload_n 124 rfl dX5_init_123 rfl rfl ?_
  refine v_bipush (v := nI 24) 126 rfl dX5_init_124 (by decide) ?_
  refine v_newa (ty := .int) (cT := cI) (N' := 24) (a0 := (24, .inl fun _ => 0)) 128 rfl 0 dX5_init_126 (by decide +kernel) rfl rfl (fun _ _ h => h) (fun _ => rfl) (by decide) (by decide) (by decide) (Nat.le_of_ble_eq_true rfl) (Nat.le_of_ble_eq_true rfl) (fun q16 => ?_)
  refine v_w (w' := [(a, .inr (5, [.ref q1, .ref q2, .ref q3, .ref q4, .ref q5, .ref q6, .ref q7, .int 0, .ref q8, .ref q9, .int 0, .int 0, .int 0, .int 0, .int 0, .int 0, .int 0, .ref q10, .ref q11, .ref q12, .ref q13, .ref q14, .ref q15, .null, .int 0])), (q1, .inl (cI, 60, .inl (fun _ => 0))), (q2, .inl (cZ, 15, .inl (fun _ => 0))), (q3, .inl (cI, 40, .inl (fun _ => 0))), (q4, .inl (cI, 40, .inl (fun _ => 0))), (q5, .inl (cI, 40, .inl (fun _ => 0))), (q6, .inl (cI, 40, .inl (fun _ => 0))), (q7, .inl (cI, 40, .inl (fun _ => 0))), (q8, .inl (cI, 6, .inl (fun _ => 0))), (q9, .inl (cZ, 6, .inl (fun _ => 0))), (q10, .inl (cI, 4, .inl (fun _ => 0))), (q11, .inl (cI, 4, .inl (fun _ => 0))), (q12, .inl (cI, 160, .inl (fun _ => 0))), (q13, .inl (cI, 6, .inl (fun _ => 0))), (q14, .inl (cZ, 6, .inl (fun _ => 0))), (q15, .inl (cI, 24, .inl (fun _ => 0))), (q16, .inl (cI, 24, .inl (fun _ => 0)))]) rfl ?_
  refine v_st (st' := [.ref q16, .ref a]) rfl ?_
  refine v_putF (ci := 5) (C := RX5) (T := TX5) (ty0 := tyX5) (N := 25) (ty := (.array .int)) (w' := [(a, .inr (5, [.ref q1, .ref q2, .ref q3, .ref q4, .ref q5, .ref q6, .ref q7, .int 0, .ref q8, .ref q9, .int 0, .int 0, .int 0, .int 0, .int 0, .int 0, .int 0, .ref q10, .ref q11, .ref q12, .ref q13, .ref q14, .ref q15, .ref q16, .int 0])), (q1, .inl (cI, 60, .inl (fun _ => 0))), (q2, .inl (cZ, 15, .inl (fun _ => 0))), (q3, .inl (cI, 40, .inl (fun _ => 0))), (q4, .inl (cI, 40, .inl (fun _ => 0))), (q5, .inl (cI, 40, .inl (fun _ => 0))), (q6, .inl (cI, 40, .inl (fun _ => 0))), (q7, .inl (cI, 40, .inl (fun _ => 0))), (q8, .inl (cI, 6, .inl (fun _ => 0))), (q9, .inl (cZ, 6, .inl (fun _ => 0))), (q10, .inl (cI, 4, .inl (fun _ => 0))), (q11, .inl (cI, 4, .inl (fun _ => 0))), (q12, .inl (cI, 160, .inl (fun _ => 0))), (q13, .inl (cI, 6, .inl (fun _ => 0))), (q14, .inl (cZ, 6, .inl (fun _ => 0))), (q15, .inl (cI, 24, .inl (fun _ => 0))), (q16, .inl (cI, 24, .inl (fun _ => 0)))]) 131 rfl 0 23 dX5_init_128 rfl (Nat.le_of_ble_eq_true rfl) i5 tyX5_ok nmX5 (by decide +kernel) rfl rfl rfl (by decide +kernel) rfl rfl rfl (Nat.le_of_ble_eq_true rfl) rfl ?_
  refine v_aload_n 132 rfl dX5_init_131 rfl rfl ?_
  refine v_iconst (v := -1) 133 rfl dX5_init_132 (by decide) ?_
  refine v_put (ci := 5) (C := RX5) (T := TX5) (ty0 := tyX5) (N := 25) (ty := .int) (w' := [(a, .inr (5, [.ref q1, .ref q2, .ref q3, .ref q4, .ref q5, .ref q6, .ref q7, .int 0, .ref q8, .ref q9, .int 0, .int (-1), .int 0, .int 0, .int 0, .int 0, .int 0, .ref q10, .ref q11, .ref q12, .ref q13, .ref q14, .ref q15, .ref q16, .int 0])), (q1, .inl (cI, 60, .inl (fun _ => 0))), (q2, .inl (cZ, 15, .inl (fun _ => 0))), (q3, .inl (cI, 40, .inl (fun _ => 0))), (q4, .inl (cI, 40, .inl (fun _ => 0))), (q5, .inl (cI, 40, .inl (fun _ => 0))), (q6, .inl (cI, 40, .inl (fun _ => 0))), (q7, .inl (cI, 40, .inl (fun _ => 0))), (q8, .inl (cI, 6, .inl (fun _ => 0))), (q9, .inl (cZ, 6, .inl (fun _ => 0))), (q10, .inl (cI, 4, .inl (fun _ => 0))), (q11, .inl (cI, 4, .inl (fun _ => 0))), (q12, .inl (cI, 160, .inl (fun _ => 0))), (q13, .inl (cI, 6, .inl (fun _ => 0))), (q14, .inl (cZ, 6, .inl (fun _ => 0))), (q15, .inl (cI, 24, .inl (fun _ => 0))), (q16, .inl (cI, 24, .inl (fun _ => 0)))]) 136 rfl 0 11 dX5_init_133 rfl (Nat.le_of_ble_eq_true rfl) i5 tyX5_ok nmX5 (by decide +kernel) rfl (by decide +kernel) rfl rfl rfl (Nat.le_of_ble_eq_true rfl) rfl ?_
  refine v_aload_n 137 rfl dX5_init_136 rfl rfl ?_
  refine v_iconst (v := -1) 138 rfl dX5_init_137 (by decide) ?_
  refine v_put (ci := 5) (C := RX5) (T := TX5) (ty0 := tyX5) (N := 25) (ty := .int) (w' := [(a, .inr (5, [.ref q1, .ref q2, .ref q3, .ref q4, .ref q5, .ref q6, .ref q7, .int 0, .ref q8, .ref q9, .int 0, .int (-1), .int 0, .int (-1), .int 0, .int 0, .int 0, .ref q10, .ref q11, .ref q12, .ref q13, .ref q14, .ref q15, .ref q16, .int 0])), (q1, .inl (cI, 60, .inl (fun _ => 0))), (q2, .inl (cZ, 15, .inl (fun _ => 0))), (q3, .inl (cI, 40, .inl (fun _ => 0))), (q4, .inl (cI, 40, .inl (fun _ => 0))), (q5, .inl (cI, 40, .inl (fun _ => 0))), (q6, .inl (cI, 40, .inl (fun _ => 0))), (q7, .inl (cI, 40, .inl (fun _ => 0))), (q8, .inl (cI, 6, .inl (fun _ => 0))), (q9, .inl (cZ, 6, .inl (fun _ => 0))), (q10, .inl (cI, 4, .inl (fun _ => 0))), (q11, .inl (cI, 4, .inl (fun _ => 0))), (q12, .inl (cI, 160, .inl (fun _ => 0))), (q13, .inl (cI, 6, .inl (fun _ => 0))), (q14, .inl (cZ, 6, .inl (fun _ => 0))), (q15, .inl (cI, 24, .inl (fun _ => 0))), (q16, .inl (cI, 24, .inl (fun _ => 0)))]) 141 rfl 0 13 dX5_init_138 rfl (Nat.le_of_ble_eq_true rfl) i5 tyX5_ok nmX5 (by decide +kernel) rfl (by decide +kernel) rfl rfl rfl (Nat.le_of_ble_eq_true rfl) rfl ?_
  refine v_iconst (v := nI 0) 142 rfl dX5_init_141 (by decide) ?_
  refine v_istore_n (lv' := [(1, .int (nI 0)), (0, .ref a)]) 143 rfl dX5_init_142 rfl (Nat.le_of_ble_eq_true rfl) rfl ?_
  refine v_iload_n 144 rfl dX5_init_143 rfl rfl ?_
  refine v_iconst (v := nI 4) 145 rfl dX5_init_144 (by decide) ?_
  refine v_icmp_geN (a := 0) (b := 4) 161 148 rfl dX5_init_145 (by decide) (by omega) (by omega) (fun q => False.elim (by omega)) (fun _ => ?_)
  refine v_aload_n 149 rfl dX5_init_148 rfl rfl ?_
  refine v_get (ci := 5) (C := RX5) (T := TX5) (N := 25) (v := .ref q11) 152 rfl 0 18 dX5_init_149 rfl (Nat.le_of_ble_eq_true rfl) i5 (by decide +kernel) rfl rfl ?_
  refine v_iload_n 153 rfl dX5_init_152 rfl rfl ?_
  refine v_iconst (v := -1) 154 rfl dX5_init_153 (by decide) ?_
  refine v_iast (j := 0) (w' := [(a, .inr (5, [.ref q1, .ref q2, .ref q3, .ref q4, .ref q5, .ref q6, .ref q7, .int 0, .ref q8, .ref q9, .int 0, .int (-1), .int 0, .int (-1), .int 0, .int 0, .int 0, .ref q10, .ref q11, .ref q12, .ref q13, .ref q14, .ref q15, .ref q16, .int 0])), (q1, .inl (cI, 60, .inl (fun _ => 0))), (q2, .inl (cZ, 15, .inl (fun _ => 0))), (q3, .inl (cI, 40, .inl (fun _ => 0))), (q4, .inl (cI, 40, .inl (fun _ => 0))), (q5, .inl (cI, 40, .inl (fun _ => 0))), (q6, .inl (cI, 40, .inl (fun _ => 0))), (q7, .inl (cI, 40, .inl (fun _ => 0))), (q8, .inl (cI, 6, .inl (fun _ => 0))), (q9, .inl (cZ, 6, .inl (fun _ => 0))), (q10, .inl (cI, 4, .inl (fun _ => 0))), (q11, .inl (cI, 4, .inl (upd (fun _ => 0) 0 (-1)))), (q12, .inl (cI, 160, .inl (fun _ => 0))), (q13, .inl (cI, 6, .inl (fun _ => 0))), (q14, .inl (cZ, 6, .inl (fun _ => 0))), (q15, .inl (cI, 24, .inl (fun _ => 0))), (q16, .inl (cI, 24, .inl (fun _ => 0)))]) 155 rfl 11 0 dX5_init_154 rfl rfl (by omega) (by decide) rfl ?_
  refine v_iinc (v := nI 1) (lv' := [(1, .int (nI 1)), (0, .ref a)]) 158 rfl dX5_init_155 0 rfl (nI_add _ _) (Nat.le_of_ble_eq_true rfl) rfl ?_
  refine v_goto 143 dX5_init_158 (by decide) ?_
  refine v_iload_n 144 rfl dX5_init_143 rfl rfl ?_
  refine v_iconst (v := nI 4) 145 rfl dX5_init_144 (by decide) ?_
  refine v_icmp_geN (a := 1) (b := 4) 161 148 rfl dX5_init_145 (by decide) (by omega) (by omega) (fun q => False.elim (by omega)) (fun _ => ?_)
  refine v_aload_n 149 rfl dX5_init_148 rfl rfl ?_
  refine v_get (ci := 5) (C := RX5) (T := TX5) (N := 25) (v := .ref q11) 152 rfl 0 18 dX5_init_149 rfl (Nat.le_of_ble_eq_true rfl) i5 (by decide +kernel) rfl rfl ?_
  refine v_iload_n 153 rfl dX5_init_152 rfl rfl ?_
  refine v_iconst (v := -1) 154 rfl dX5_init_153 (by decide) ?_
  refine v_iast (j := 1) (w' := [(a, .inr (5, [.ref q1, .ref q2, .ref q3, .ref q4, .ref q5, .ref q6, .ref q7, .int 0, .ref q8, .ref q9, .int 0, .int (-1), .int 0, .int (-1), .int 0, .int 0, .int 0, .ref q10, .ref q11, .ref q12, .ref q13, .ref q14, .ref q15, .ref q16, .int 0])), (q1, .inl (cI, 60, .inl (fun _ => 0))), (q2, .inl (cZ, 15, .inl (fun _ => 0))), (q3, .inl (cI, 40, .inl (fun _ => 0))), (q4, .inl (cI, 40, .inl (fun _ => 0))), (q5, .inl (cI, 40, .inl (fun _ => 0))), (q6, .inl (cI, 40, .inl (fun _ => 0))), (q7, .inl (cI, 40, .inl (fun _ => 0))), (q8, .inl (cI, 6, .inl (fun _ => 0))), (q9, .inl (cZ, 6, .inl (fun _ => 0))), (q10, .inl (cI, 4, .inl (fun _ => 0))), (q11, .inl (cI, 4, .inl (upd (upd (fun _ => 0) 0 (-1)) 1 (-1)))), (q12, .inl (cI, 160, .inl (fun _ => 0))), (q13, .inl (cI, 6, .inl (fun _ => 0))), (q14, .inl (cZ, 6, .inl (fun _ => 0))), (q15, .inl (cI, 24, .inl (fun _ => 0))), (q16, .inl (cI, 24, .inl (fun _ => 0)))]) 155 rfl 11 0 dX5_init_154 rfl rfl (by omega) (by decide) rfl ?_
  refine v_iinc (v := nI 2) (lv' := [(1, .int (nI 2)), (0, .ref a)]) 158 rfl dX5_init_155 0 rfl (nI_add _ _) (Nat.le_of_ble_eq_true rfl) rfl ?_
  refine v_goto 143 dX5_init_158 (by decide) ?_
  refine v_iload_n 144 rfl dX5_init_143 rfl rfl ?_
  refine v_iconst (v := nI 4) 145 rfl dX5_init_144 (by decide) ?_
  refine v_icmp_geN (a := 2) (b := 4) 161 148 rfl dX5_init_145 (by decide) (by omega) (by omega) (fun q => False.elim (by omega)) (fun _ => ?_)
  refine v_aload_n 149 rfl dX5_init_148 rfl rfl ?_
  refine v_get (ci := 5) (C := RX5) (T := TX5) (N := 25) (v := .ref q11) 152 rfl 0 18 dX5_init_149 rfl (Nat.le_of_ble_eq_true rfl) i5 (by decide +kernel) rfl rfl ?_
  refine v_iload_n 153 rfl dX5_init_152 rfl rfl ?_
  refine v_iconst (v := -1) 154 rfl dX5_init_153 (by decide) ?_
  refine v_iast (j := 2) (w' := [(a, .inr (5, [.ref q1, .ref q2, .ref q3, .ref q4, .ref q5, .ref q6, .ref q7, .int 0, .ref q8, .ref q9, .int 0, .int (-1), .int 0, .int (-1), .int 0, .int 0, .int 0, .ref q10, .ref q11, .ref q12, .ref q13, .ref q14, .ref q15, .ref q16, .int 0])), (q1, .inl (cI, 60, .inl (fun _ => 0))), (q2, .inl (cZ, 15, .inl (fun _ => 0))), (q3, .inl (cI, 40, .inl (fun _ => 0))), (q4, .inl (cI, 40, .inl (fun _ => 0))), (q5, .inl (cI, 40, .inl (fun _ => 0))), (q6, .inl (cI, 40, .inl (fun _ => 0))), (q7, .inl (cI, 40, .inl (fun _ => 0))), (q8, .inl (cI, 6, .inl (fun _ => 0))), (q9, .inl (cZ, 6, .inl (fun _ => 0))), (q10, .inl (cI, 4, .inl (fun _ => 0))), (q11, .inl (cI, 4, .inl (upd (upd (upd (fun _ => 0) 0 (-1)) 1 (-1)) 2 (-1)))), (q12, .inl (cI, 160, .inl (fun _ => 0))), (q13, .inl (cI, 6, .inl (fun _ => 0))), (q14, .inl (cZ, 6, .inl (fun _ => 0))), (q15, .inl (cI, 24, .inl (fun _ => 0))), (q16, .inl (cI, 24, .inl (fun _ => 0)))]) 155 rfl 11 0 dX5_init_154 rfl rfl (by omega) (by decide) rfl ?_
  refine v_iinc (v := nI 3) (lv' := [(1, .int (nI 3)), (0, .ref a)]) 158 rfl dX5_init_155 0 rfl (nI_add _ _) (Nat.le_of_ble_eq_true rfl) rfl ?_
  refine v_goto 143 dX5_init_158 (by decide) ?_
  refine v_iload_n 144 rfl dX5_init_143 rfl rfl ?_
  refine v_iconst (v := nI 4) 145 rfl dX5_init_144 (by decide) ?_
  refine v_icmp_geN (a := 3) (b := 4) 161 148 rfl dX5_init_145 (by decide) (by omega) (by omega) (fun q => False.elim (by omega)) (fun _ => ?_)
  refine v_aload_n 149 rfl dX5_init_148 rfl rfl ?_
  refine v_get (ci := 5) (C := RX5) (T := TX5) (N := 25) (v := .ref q11) 152 rfl 0 18 dX5_init_149 rfl (Nat.le_of_ble_eq_true rfl) i5 (by decide +kernel) rfl rfl ?_
  refine v_iload_n 153 rfl dX5_init_152 rfl rfl ?_
  refine v_iconst (v := -1) 154 rfl dX5_init_153 (by decide) ?_
  refine v_iast (j := 3) (w' := [(a, .inr (5, [.ref q1, .ref q2, .ref q3, .ref q4, .ref q5, .ref q6, .ref q7, .int 0, .ref q8, .ref q9, .int 0, .int (-1), .int 0, .int (-1), .int 0, .int 0, .int 0, .ref q10, .ref q11, .ref q12, .ref q13, .ref q14, .ref q15, .ref q16, .int 0])), (q1, .inl (cI, 60, .inl (fun _ => 0))), (q2, .inl (cZ, 15, .inl (fun _ => 0))), (q3, .inl (cI, 40, .inl (fun _ => 0))), (q4, .inl (cI, 40, .inl (fun _ => 0))), (q5, .inl (cI, 40, .inl (fun _ => 0))), (q6, .inl (cI, 40, .inl (fun _ => 0))), (q7, .inl (cI, 40, .inl (fun _ => 0))), (q8, .inl (cI, 6, .inl (fun _ => 0))), (q9, .inl (cZ, 6, .inl (fun _ => 0))), (q10, .inl (cI, 4, .inl (fun _ => 0))), (q11, .inl (cI, 4, .inl (upd (upd (upd (upd (fun _ => 0) 0 (-1)) 1 (-1)) 2 (-1)) 3 (-1)))), (q12, .inl (cI, 160, .inl (fun _ => 0))), (q13, .inl (cI, 6, .inl (fun _ => 0))), (q14, .inl (cZ, 6, .inl (fun _ => 0))), (q15, .inl (cI, 24, .inl (fun _ => 0))), (q16, .inl (cI, 24, .inl (fun _ => 0)))]) 155 rfl 11 0 dX5_init_154 rfl rfl (by omega) (by decide) rfl ?_
  refine v_iinc (v := nI 4) (lv' := [(1, .int (nI 4)), (0, .ref a)]) 158 rfl dX5_init_155 0 rfl (nI_add _ _) (Nat.le_of_ble_eq_true rfl) rfl ?_
  refine v_goto 143 dX5_init_158 (by decide) ?_
  refine v_iload_n 144 rfl dX5_init_143 rfl rfl ?_
  refine v_iconst (v := nI 4) 145 rfl dX5_init_144 (by decide) ?_
  refine v_icmp_geN (a := 4) (b := 4) 161 148 rfl dX5_init_145 (by decide) (by omega) (by omega) (fun _ => ?_) (fun q => False.elim (by omega))
  exact v_vretC dX5_init_161 rfl ⟨fun i => ([a, q1, q2, q3, q4, q5, q6, q7, q8, q9, q10, q11, q12, q13, q14, q15, q16] : List Nat).getD i 0, rfl, rfl⟩
