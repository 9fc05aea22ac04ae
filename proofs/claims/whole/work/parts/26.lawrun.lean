/-! StateTypesLaw.run over the contracts of StateTypes.run -/
section KCORE
/-- behind a call: the other cells stay -/
theorem k_core {D : va_G} {H H1 : Heap} {locs L' : List Loc} {L wc wc' Rr : va_W} {H0 : Heap} {A0 : Nat → Prop} (hb : va_P D vwCl wc' H1) (hz : H.size ≤ H1.size) (hk : ∀ q : Nat, q < H.size → ¬ va_A wc H.size q → H1[q]? = H[q]?) (hL : ∀ q ∈ L', va_A wc H.size q.base)
    (hP : va_P D vwCl (L ++ (wc ++ Rr)) H) (hD : va_D A0 (L ++ (wc ++ Rr))) (hS : va_S A0 H0 H locs) (hA : ∀ q, H0.size ≤ q → A0 q) (had : wc'.map (·.1) = wc.map (·.1)) :
    (∀ q, va_A wc H.size q → A0 q) ∧ va_P D vwCl (L ++ (wc' ++ Rr)) H1 ∧ va_D A0 (L ++ (wc' ++ Rr)) ∧ va_S A0 H0 H1 (locs ++ L') := by
  have hlen : wc'.length = wc.length := by
    have := congrArg List.length had
    simpa using this
  have hF : ∀ q, va_A wc H.size q → A0 q := by
    rintro q (⟨i, e0, hi⟩ | hi)
    · have hlt : i < wc.length := (List.getElem?_eq_some_iff.mp hi).1
      exact hD.2 (L.length + i) (q, e0) (by rw [List.getElem?_append_right (by omega), show L.length + i - L.length = i by omega, List.getElem?_append_left hlt]; exact hi)
    · exact hA q (Nat.le_trans hS.1 hi)
  have hD' : va_D A0 (L ++ (wc' ++ Rr)) := by
    have hm : (L ++ (wc' ++ Rr)).map (·.1) = (L ++ (wc ++ Rr)).map (·.1) := by simp [had]
    have look : ∀ (i : Nat) (q : Nat × va_E), (L ++ (wc' ++ Rr))[i]? = some q → ∃ q', (L ++ (wc ++ Rr))[i]? = some q' ∧ q'.1 = q.1 := by
      intro i q hq
      have h1 : ((L ++ (wc' ++ Rr)).map (·.1))[i]? = some q.1 := by rw [List.getElem?_map, hq]; rfl
      rw [hm, List.getElem?_map] at h1
      cases hh : (L ++ (wc ++ Rr))[i]? with
      | none => rw [hh] at h1; cases h1
      | some q' => rw [hh] at h1; exact ⟨q', rfl, Option.some.inj h1⟩
    refine ⟨fun i j a b ha hb hab => ?_, fun i q hq => ?_⟩
    · obtain ⟨a', ha', ea⟩ := look i a ha
      obtain ⟨b', hb', eb⟩ := look j b hb
      exact hD.1 i j a' b' ha' hb' (by rw [ea, eb, hab])
    · obtain ⟨q', hq', eq⟩ := look i q hq
      rw [← eq]
      exact hD.2 i q' hq'
  have apart : ∀ (i : Nat) (q : Nat × va_E), (L ++ (wc ++ Rr))[i]? = some q → (i < L.length ∨ L.length + wc.length ≤ i) → q.1 < H.size ∧ ¬ va_A wc H.size q.1 := by
    intro i q hq hi
    have hlt := (hP i q hq).lt
    refine ⟨hlt, ?_⟩
    rintro (⟨j, e0, hj⟩ | hj)
    · have hjl : j < wc.length := (List.getElem?_eq_some_iff.mp hj).1
      have hj' : (L ++ (wc ++ Rr))[L.length + j]? = some (q.1, e0) := by rw [List.getElem?_append_right (by omega), show L.length + j - L.length = j by omega, List.getElem?_append_left hjl]; exact hj
      have := hD.1 i (L.length + j) q (q.1, e0) hq hj' rfl
      omega
    · omega
  have hPn : va_P D vwCl (L ++ (wc' ++ Rr)) H1 := by
    intro i q hq
    by_cases h1 : i < L.length
    · rw [List.getElem?_append_left h1] at hq
      have hq' : (L ++ (wc ++ Rr))[i]? = some q := by rw [List.getElem?_append_left h1]; exact hq
      obtain ⟨g1, g2⟩ := apart i q hq' (Or.inl h1)
      exact (hP i q hq').kept (hk q.1 g1 g2)
    · by_cases h2 : i < L.length + wc.length
      · rw [List.getElem?_append_right (by omega), List.getElem?_append_left (by omega)] at hq
        exact hb _ q hq
      · rw [List.getElem?_append_right (by omega), List.getElem?_append_right (by omega), hlen] at hq
        have hq' : (L ++ (wc ++ Rr))[i]? = some q := by rw [List.getElem?_append_right (by omega), List.getElem?_append_right (by omega)]; exact hq
        obtain ⟨g1, g2⟩ := apart i q hq' (Or.inr (by omega))
        exact (hP i q hq').kept (hk q.1 g1 g2)
  exact ⟨hF, hPn, hD', Nat.le_trans hS.1 hz, fun q h1 h2 => by rw [hk q (Nat.lt_of_lt_of_le h1 hS.1) (fun z => h2 (hF q z))]; exact hS.2.1 q h1 h2, fun q hq => by
      rcases List.mem_append.mp hq with h | h
      · exact hS.2.2 q h
      · exact hF _ (hL q h)⟩
theorem k_sub {D : va_G} {L wc Rr : va_W} {H H0 : Heap} {locs : List Loc} {A0 : Nat → Prop} (hP : va_P D vwCl (L ++ (wc ++ Rr)) H) (hD : va_D A0 (L ++ (wc ++ Rr))) (hS : va_S A0 H0 H locs) (hA : ∀ q, H0.size ≤ q → A0 q) : ∀ q, va_A wc H.size q → A0 q :=
  (k_core (L' := []) (va_P.mid hP) (Nat.le_refl _) (fun _ _ _ => rfl) (fun q h => nomatch h) hP hD hS hA rfl).1
end KCORE
section KXC
variable {p : Program} {l : Launch} {e : Env} {R : Room} {s : State} {m : MethodId} {args : Array Value} {below : List Frame} {meth : Method} {c : Code} {H : Heap} {locs : List Loc} {cells slots : Nat} {Q : State → Prop}
theorem k_afterX {D : va_G} {pc mc ms : Nat} {E : String} {ls : Array Slot} {st0 rest : List Value} {L wc wc' Rr : va_W} {H0 : Heap} {A0 : Nat → Prop} (hr : vx_Run p l e R s m args below meth c H locs cells slots mc ms (F0 m pc ls st0) rest (fun _ _ _ => False) (XCk D wc wc' E H.size) (va_A wc H.size))
    (hP : va_P D vwCl (L ++ (wc ++ Rr)) H) (hD : va_D A0 (L ++ (wc ++ Rr))) (hS : va_S A0 H0 H locs) (hA : ∀ q, H0.size ≤ q → A0 q) (had : wc'.map (·.1) = wc.map (·.1))
    (kk : ∀ (H1 : Heap) (locs1 : List Loc) (q : Addr) (ce : Cell), va_P D vwCl (L ++ (wc' ++ Rr)) H1 → va_D A0 (L ++ (wc' ++ Rr)) → va_S A0 H0 H1 locs1 → H1[q]? = some ce → ce.vm = .none → s.vm.findClass E = some ce.cls → vx_W p l e R s m args below meth c H1 locs1 (cells + mc) (slots + ms) Q (F0 m pc ls rest) q) : W p l e R s m args below meth c H locs cells slots Q (F0 m pc ls st0) := by
  intro T hT X
  rcases hr T hT X with ⟨v, st₀, t, T', L', h0, X', hL, e1, e2, hF, st⟩ | ⟨q, st₀, t, T', L', E', ce, h0, X', hL, e1, e2, ⟨rfl, hb, hz, hk⟩, hce, hcv, hcl, st⟩
  · exact hF.elim
  · rw [h0] at hz hk
    obtain ⟨-, k1, k2, k3⟩ := k_core (H1 := T'.heap) (by rw [e1]; exact hb) (by rw [e1]; exact hz) (fun q h1 h2 => by rw [e1]; exact hk q h1 h2) hL hP hD hS hA had
    obtain ⟨t2, a1, b1⟩ := kk T'.heap (locs ++ L') q ce k1 k2 k3 (by rw [e1]; exact hce) hcv hcl T' rfl X'
    exact ⟨t2, st.trans a1, b1⟩
/-- behind a call that made cells -/
theorem k_afterM {D : va_G} {pc mc ms : Nat} {ls : Array Slot} {st0 rest : List Value} {L wc wc' Rr : va_W} {r : Option Value} {H0 : Heap} {A0 : Nat → Prop} (hr : va_Run p l e R s m args below meth c H locs cells slots mc ms (F0 m pc ls st0) rest (fun st oc t => KPost D wc wc' H.size r st oc t) (va_A wc H.size))
    (hP : va_P D vwCl (L ++ (wc ++ Rr)) H) (hD : va_D A0 (L ++ (wc ++ Rr))) (hS : va_S A0 H0 H locs) (hA : ∀ q, H0.size ≤ q → A0 q) (had : wc'.map (·.1) = wc.map (·.1))
    (kk : ∀ (H1 : Heap) (locs1 : List Loc), va_P D vwCl (L ++ (wc' ++ Rr)) H1 → va_D A0 (L ++ (wc' ++ Rr)) → va_S A0 H0 H1 locs1 → W p l e R s m args below meth c H1 locs1 (cells + mc) (slots + ms) Q (F0 m (pc + 3) ls (r.toList ++ rest))) : W p l e R s m args below meth c H locs cells slots Q (F0 m pc ls st0) := by
  intro T hT X
  obtain ⟨v, st₀, t, T', L', h0, X', hL, e1, e2, ⟨hv, hb, hz, hk⟩, st⟩ := hr T hT X
  cases hv
  rw [h0] at hz hk
  obtain ⟨-, k1, k2, k3⟩ := k_core (H1 := T'.heap) (by rw [e1]; exact hb) (by rw [e1]; exact hz) (fun q h1 h2 => by rw [e1]; exact hk q h1 h2) hL hP hD hS hA had
  obtain ⟨t2, a1, b1⟩ := kk T'.heap (locs ++ L') k1 k2 k3 T' rfl X'
  exact ⟨t2, st t2 a1, b1⟩
end KXC
def KY (D : va_G) (tys : List (ClassId × FieldType)) (l : Launch) (y : MethodName) (ws : List Cond) (fr lo : Nat) (av : List Value) (w : va_W) (r : Option Value) (w' : va_W) (sa : Nat → Nat) : Prop :=
  ∀ sz : Nat, Met l y ws (rmX fr lo) (va_Pc av (KPreX D tys w sa sz)) (fun _ st oc t => KPost D w w' sz r st oc t) 1 6 (va_A w sz)
abbrev xY (D : va_G) (tys : List (ClassId × FieldType)) (l : Launch) (fr lo : Nat) (w : va_W) (r : Option Value) (w' : va_W) (sa : Nat → Nat) (tbl : List ExceptionTableEntry) : XX := (D, tys, l, rmX fr lo, w, (fun args below s => MQ below (fun _ st oc t => KPost D w w' s.heap.size r st oc t) args s 1 6 (va_A w s.heap.size)), (fun args s => XPv sa s ∧ XPh (va_A w s.heap.size) s s.heap ∧ TabE tbl args s))
theorem KY.of {D : va_G} {tys : List (ClassId × FieldType)} {l : Launch} {y : MethodName} {ws ws' : List Cond} {fr lo : Nat} {av : List Value} {w w' : va_W} {r : Option Value} {sa : Nat → Nat} {cc : ByteArray} {nL : Nat} {ret : Option FieldType} {hh : List (Nat × Nat × Nat × Nat)} (hy : plainName y.cls = true) (hw : ws = Cond.codeWith y cc nL ret hh :: ws') (hlen : (lg_sl av).length ≤ nL)
    (body : V (xY D tys l fr lo w r w' sa (tableOf hh)) (cc, ws, y.cls, nL, ret, y.name) 0 0 w 0 (lv_args 0 av) []) : KY D tys l y ws fr lo av w r w' sa := by
  intro sz
  refine va_MetW (cc := cc) (maxL := nL) (ret := ret) (hh := hh) hy hw ?_
  intro p e s m args below meth c s₁ B hml hv
  obtain ⟨rfl, ⟨hsz, hP, hK, hN, hD0⟩, hxv, hxh⟩ := hv
  subst hsz
  have hl := lv_entry av (n := nL) hlen
  rw [lg_entry_eq]
  have hts := atoms_spec (ws := ws) B.pre
  have htab := vx_table (x := y) B (hts _ (by rw [hw]; exact List.mem_cons_self))
  exact body p e s m av.toArray below meth c ⟨B.exec, B.bytes, hml, findClass_of_methodNamed B.named, hts, hK, hN, B.notSynchronized, B.returns, (name_of_methodNamed B.named B.method).1, hxv, hxh, TabE.of B.frames B.method (Stand.of_body B).code htab⟩ s.heap [] _ hP hD0.self va_S.rf hl
section KYR
variable {x : XX} {k : KI} {cs ss : Nat} {w : va_W} {pc : Nat} {lv : List (Nat × Value)} {st : List Value}
theorem v_widen {cs' ss' : Nat} (h1 : cs ≤ cs') (h2 : ss ≤ ss') (h : V x k cs' ss' w pc lv st) : V x k cs ss w pc lv st := by
  intro p e s m args below meth c Z H locs ls hP hD hS hl
  exact W.widen h1 h2 (h p e s m args below meth c Z H locs ls hP hD hS hl)
theorem v_i2l {a : Int32} {v : Int64} (pc' : Nat) (hp : pc + 1 = pc') (hd : decode k.1 pc = .ok (.i2l, 1)) (hv : a.toInt64 = v) (h : V x k cs ss w pc' lv (.long v :: st)) : V x k cs ss w pc lv (.int a :: st) := by
  subst hp
  intro p e s m args below meth c Z H locs ls hP hD hS hl
  exact lv_i2l Z.1 Z.2.1 hd hv (h p e s m args below meth c Z H locs ls hP hD hS hl)
theorem v_last {w' : va_W} {a n : Nat} {cA : ClassId} {f : Nat → Int64} {i : Int32} {v : Int64} (pc' : Nat) (hp : pc + 1 = pc') (q0 t0 : Nat) (hd : decode k.1 pc = .ok (.lastore, 1)) (he : w[q0]? = some (a, .inl (cA, n, .inr (.inl f)))) (ht : (xT x)[t0]? = some (cA, .long)) (hin : vp_in i n) (hw : w.set q0 (a, .inl (cA, n, .inr (.inl (vp_updL f i.toNatClampNeg v)))) = w') (h : V x k cs ss w' pc' lv st) : V x k cs ss w pc lv (.long v :: .int i :: .ref a :: st) := by
  subst hp
  subst hw
  intro p e s m args below meth c Z H locs ls hP hD hS hl
  exact va_last Z.1 Z.2.1 Z.2.2.2.2.2.1 hP hD hS q0 t0 he ht hin hd (fun H1 locs1 hP1 hD1 hS1 => h p e s m args below meth c Z H1 locs1 ls hP1 hD1 hS1 hl)
theorem v_lald {a n : Nat} {cA : ClassId} {f : Nat → Int64} {i : Int32} {v : Int64} (pc' : Nat) (hp : pc + 1 = pc') (q0 t0 : Nat) (hd : decode k.1 pc = .ok (.laload, 1)) (he : w[q0]? = some (a, .inl (cA, n, .inr (.inl f)))) (ht : (xT x)[t0]? = some (cA, .long)) (hin : vp_in i n) (hv : f i.toNatClampNeg = v) (h : V x k cs ss w pc' lv (.long v :: st)) : V x k cs ss w pc lv (.int i :: .ref a :: st) := by
  subst hp
  subst hv
  intro p e s m args below meth c Z H locs ls hP hD hS hl
  exact va_lald Z.1 Z.2.1 Z.2.2.2.2.2.1 hP q0 t0 he ht hin hd (h p e s m args below meth c Z H locs ls hP hD hS hl)
theorem v_iretY {D : va_G} {tys : List (ClassId × FieldType)} {l : Launch} {fr lo : Nat} {w0 w' : va_W} {r : Option Value} {sa : Nat → Nat} {tbl : List ExceptionTableEntry} {v : Int32} (hd : decode k.1 pc = .ok (.ireturn, 1)) (hr : kR k = some .int) (hv : some (.int v) = r) (hw : w = w') : V (xY D tys l fr lo w0 r w' sa tbl) k 1 6 w pc lv [.int v] := by
  subst hv
  subst hw
  intro p e s m args below meth c Z H locs ls hP hD hS hl
  have hlocks := Z.2.2.2.2.2.2.2.1
  show W p l e (rmX fr lo) s m args below meth c H locs 1 6 (MQ below (fun _ st oc t => KPost D w0 w s.heap.size (some (.int v)) st oc t) args s 1 6 (va_A w0 s.heap.size)) (F0 m pc ls [.int v])
  exact W.iret Z.1 Z.2.1 (Z.2.2.2.2.2.2.2.2.1.trans hr) (fun t ht hW => ⟨rfl, by rw [ht]; exact hP, hS.F ht⟩) hS.2.2 hd
end KYR
abbrev hhL : List (Nat × Nat × Nat × Nat) := [(0, 10, 13, 13), (0, 10, 17, 15)]
abbrev wO (o : Nat) (cJ : ClassId) (g : Nat → Int64) : va_W := [(o, .inl (cJ, 1, .inr (.inl g)))]
abbrev kL : KI := (cL_run, wsL_run, yL_run.cls, 5, some .int, yL_run.name)
/-- the call of run that throws, caught -/
theorem v_callX {D : va_G} {tys : List (ClassId × FieldType)} {l : Launch} {fr lo : Nat} {w0 w' : va_W} {r : Option Value} {sa : Nat → Nat} {b : Nat} {As : List Value} {fs : List Value} {wc wc' Rr : va_W} {E : String} {hp : Nat} {lv : List (Nat × Value)} {st : List Value} (hfr : 7 ≤ fr) (hlo : 159 ≤ lo) (hM : KX D tys l yX4_run wsX4_run 6 137 (.ref b :: As) wc wc' E sa) (hn : As.length = 2) (hcat : (st.map fun v => v.category).sum ≤ 8) (he : wc[0]? = some (b, .inr (4, fs))) (had : wc'.map (·.1) = wc.map (·.1))
    (hE : (E = nIAE ∧ hp = 13) ∨ (E = nISE ∧ hp = 17)) (h : ∀ q, V (xY D tys l fr lo w0 r w' sa (tableOf hhL)) kL 1 6 (wc' ++ Rr) hp lv [.ref q]) : V (xY D tys l fr lo w0 r w' sa (tableOf hhL)) kL 0 0 (wc ++ Rr) 5 lv (As.reverse ++ .ref b :: st) := by
  intro p e s m args below meth c Z H locs ls hP hD hS hl
  have hP' : va_P D vwCl ([] ++ (wc ++ Rr)) H := hP
  have hD' : va_D (va_A w0 s.heap.size) ([] ++ (wc ++ Rr)) := hD
  have hPc := va_P.mid hP'
  have hDc := va_D.mid hD'
  have hrec := va_recv (ci := 4) Z.2.2.2.2.2.1 hPc rfl he
  obtain ⟨hxv, hxh, htab⟩ := Z.2.2.2.2.2.2.2.2.2.2
  have hsub := k_sub hP' hD' hS (fun q hq => Or.inr hq)
  have hxh' : XPh (va_A wc H.size) s H := (hxh.kept hS.2.1).narrow hsub
  have hts := Z.2.2.2.2.1
  refine k_afterX (L := []) (Rr := Rr) (vx_runV (C := RX4) (As := As) (rest := st) (n := 2) ⟨Z.1, Z.2.1, Z.2.2.1, Z.2.2.2.1, hts⟩ (hM H.size) (cwV 2 hts gL_run_X4_run rfl rfl rfl (by decide +kernel) ⟨hfr, hlo⟩) ⟨KPreX.blind, hrec, fun U hU hW => ⟨rfl, ⟨by rw [hU], by rw [hU]; exact hPc, va_K.moved hW.alike Z.2.2.2.2.2.1, NW.warm hW Z.2.2.2.2.2.2.1, hDc⟩, XPv.warm hW hxv, by rw [hU]; exact XPh.moved hW.alike hxh'⟩⟩ rfl hn hl.1 rfl (lv_room hcat) dL_run_5 ⟨Nat.le_refl _, Nat.le_refl _⟩) hP' hD' hS (fun q hq => Or.inr hq) had (fun H1 locs1 q ce hP1 hD1 hS1 hce hcv hcl => ?_)
  have hown : s.vm.findClass RL = some m.cls := Z.2.2.2.1
  have hl1 : (Cond.classLink RL 13 nIAE).before args s = true := hts _ (by decide +kernel)
  have hl2 : (Cond.classLink RL 15 nISE).before args s = true := hts _ (by decide +kernel)
  intro T hT X
  have ht := htab m meth c below X.frames X.method X.code
  rcases hE with ⟨rfl, rfl⟩ | ⟨rfl, rfl⟩
  · exact kx_catch1 (x := ⟨0, 10, 13, 13⟩) (suf := [⟨0, 10, 17, 15⟩]) (name := nIAE) (own := RL) hown ht rfl (by decide) hl1 hxv.2.2.2.1.word hce hcv hcl (h q p e s m args below meth c Z H1 locs1 ls hP1 hD1 hS1 hl) T hT X
  · exact kx_catch2 (y := ⟨0, 10, 13, 13⟩) (x := ⟨0, 10, 17, 15⟩) (suf := []) (nm := nIAE) (name := nISE) (own := RL) hown ht rfl (by decide) hl1 hxv.2.2.2.2.2.1 rfl (by decide) hl2 hxv.2.2.2.2.1.word hce hcv hcl (h q p e s m args below meth c Z H1 locs1 ls hP1 hD1 hS1 hl) T hT X

set_option maxRecDepth 100000 in
set_option maxHeartbeats 4000000 in
theorem l_runT {D : va_G} {cI cZ cJ : ClassId} {l : Launch} {ad : Nat → Nat} {tg : Nat → Int32} {fn : Nat → Int32} {ki : Nat → Int32} {nu : Nat → Int32} {fi : Nat → Int32} {se : Nat → Int32} {ju : Nat → Int32} {op : Nat → Int32} {en : Nat} {sm : Nat} {ob : Nat} {be : Nat → Int32} {af : Nat → Int32} {pl : Int32} {rf : Int32} {rp : Int32} {rs : Nat} {ra : Nat} {rb : Int32} {rl : Nat} {o : Nat} {g : Nat → Int64} {rf1 rp1 rb1 : Int32} {rs1 ra1 rl1 : Nat} (sa : Nat → Nat) (b c : Int32) (E : String) (kk : Nat) (hE : (E = nIAE ∧ kk = 1) ∨ (E = nISE ∧ kk = 2)) (hM : KX D (tyL cI cZ cJ) l yX4_run wsX4_run 6 137 [.ref (ad 0), .int b, .int c] (wC ad cI cZ tg fn ki nu fi se ju op en sm ob be af pl rf rp rs ra rb rl) (wC ad cI cZ tg fn ki nu fi se ju op en sm ob be af pl rf1 rp1 rs1 ra1 rb1 rl1) E sa) : KY D (tyL cI cZ cJ) l yL_run wsL_run 7 159 [.ref (ad 0), .int b, .int c, .ref o] (wC ad cI cZ tg fn ki nu fi se ju op en sm ob be af pl rf rp rs ra rb rl ++ wO o cJ g) (some (.int (nI kk))) (wC ad cI cZ tg fn ki nu fi se ju op en sm ob be af pl rf1 rp1 rs1 ra1 rb1 rl1 ++ wO o cJ g) sa := by
  refine KY.of (cc := cL_run) (nL := 5) (ret := some .int) (hh := hhL) (by decide +kernel) rfl (Nat.le_of_ble_eq_true rfl) ?_
  refine v_aload_n 1 rfl dL_run_0 rfl rfl ?_
  refine v_iconst (v := nI 0) 2 rfl dL_run_1 (by decide) ?_
  refine v_aload_n 3 rfl dL_run_2 rfl rfl ?_
  refine v_iload_n 4 rfl dL_run_3 rfl rfl ?_
  refine v_iload_n 5 rfl dL_run_4 rfl rfl ?_
  rcases hE with ⟨rfl, rfl⟩ | ⟨rfl, rfl⟩
  · refine v_callX (hp := 13) (As := [.int b, .int c]) (st := [.int (nI 0), .ref o]) (Nat.le_of_ble_eq_true rfl) (Nat.le_of_ble_eq_true rfl) hM rfl (Nat.le_of_ble_eq_true rfl) rfl rfl (Or.inl ⟨rfl, rfl⟩) (fun q => ?_)
    refine v_astore (lv' := [(4, .ref q), (0, .ref (ad 0)), (1, .int b), (2, .int c), (3, .ref o)]) 15 rfl dL_run_13 (Nat.le_of_ble_eq_true rfl) rfl ?_
    refine v_iconst (v := nI 1) 16 rfl dL_run_15 (by decide) ?_
    exact v_iretY dL_run_16 rfl rfl rfl
  · refine v_callX (hp := 17) (As := [.int b, .int c]) (st := [.int (nI 0), .ref o]) (Nat.le_of_ble_eq_true rfl) (Nat.le_of_ble_eq_true rfl) hM rfl (Nat.le_of_ble_eq_true rfl) rfl rfl (Or.inr ⟨rfl, rfl⟩) (fun q => ?_)
    refine v_astore (lv' := [(4, .ref q), (0, .ref (ad 0)), (1, .int b), (2, .int c), (3, .ref o)]) 19 rfl dL_run_17 (Nat.le_of_ble_eq_true rfl) rfl ?_
    refine v_iconst (v := nI 2) 20 rfl dL_run_19 (by decide) ?_
    exact v_iretY dL_run_20 rfl rfl rfl
set_option maxRecDepth 100000 in
set_option maxHeartbeats 4000000 in
theorem l_runOk {D : va_G} {cI cZ cJ : ClassId} {l : Launch} {ad : Nat → Nat} {tg : Nat → Int32} {fn : Nat → Int32} {ki : Nat → Int32} {nu : Nat → Int32} {fi : Nat → Int32} {se : Nat → Int32} {ju : Nat → Int32} {op : Nat → Int32} {en : Nat} {sm : Nat} {ob : Nat} {be : Nat → Int32} {af : Nat → Int32} {pl : Int32} {rf : Int32} {rp : Int32} {rs : Nat} {ra : Nat} {rb : Int32} {rl : Nat} {o : Nat} {g : Nat → Int64} {rf1 rp1 rb1 : Int32} {rs1 ra1 rl1 : Nat} (sa : Nat → Nat) (b c v : Int32) (hM : KM D (tyL cI cZ cJ) l yX4_run wsX4_run 6 137 [.ref (ad 0), .int b, .int c] (wC ad cI cZ tg fn ki nu fi se ju op en sm ob be af pl rf rp rs ra rb rl) (some (.int v)) (wC ad cI cZ tg fn ki nu fi se ju op en sm ob be af pl rf1 rp1 rs1 ra1 rb1 rl1)) : KY D (tyL cI cZ cJ) l yL_run wsL_run 7 159 [.ref (ad 0), .int b, .int c, .ref o] (wC ad cI cZ tg fn ki nu fi se ju op en sm ob be af pl rf rp rs ra rb rl ++ wO o cJ g) (some (.int (nI 0))) (wC ad cI cZ tg fn ki nu fi se ju op en sm ob be af pl rf1 rp1 rs1 ra1 rb1 rl1 ++ wO o cJ (vp_updL g 0 v.toInt64)) sa := by
  refine KY.of (cc := cL_run) (nL := 5) (ret := some .int) (hh := hhL) (by decide +kernel) rfl (Nat.le_of_ble_eq_true rfl) ?_
  refine v_aload_n 1 rfl dL_run_0 rfl rfl ?_
  refine v_iconst (v := nI 0) 2 rfl dL_run_1 (by decide) ?_
  refine v_aload_n 3 rfl dL_run_2 rfl rfl ?_
  refine v_iload_n 4 rfl dL_run_3 rfl rfl ?_
  refine v_iload_n 5 rfl dL_run_4 rfl rfl ?_
  refine v_callV (n := 2) (q0 := 0) (ci := 4) (C := RX4) (As := [.int b, .int c]) [] (wC ad cI cZ tg fn ki nu fi se ju op en sm ob be af pl rf rp rs ra rb rl) (wC ad cI cZ tg fn ki nu fi se ju op en sm ob be af pl rf1 rp1 rs1 ra1 rb1 rl1) (wO o cJ g) 8 rfl hM gL_run_X4_run rfl (by decide +kernel) rfl ⟨(Nat.le_of_ble_eq_true rfl), (Nat.le_of_ble_eq_true rfl)⟩ rfl (Nat.le_of_ble_eq_true rfl) rfl rfl rfl dL_run_5 ⟨Nat.zero_le _, Nat.zero_le _⟩ rfl rfl ?_
  refine v_st (st' := [.int v, .int (nI 0), .ref o]) rfl ?_
  refine v_i2l (v := v.toInt64) 9 rfl dL_run_8 rfl ?_
  refine v_last (w' := wC ad cI cZ tg fn ki nu fi se ju op en sm ob be af pl rf1 rp1 rs1 ra1 rb1 rl1 ++ wO o cJ (vp_updL g 0 v.toInt64)) 10 rfl 15 2 dL_run_9 rfl rfl (vp_in_nI (by decide) (by decide)) rfl ?_
  refine v_goto 21 dL_run_10 (by decide) ?_
  refine v_iconst (v := nI 0) 22 rfl dL_run_21 (by decide) ?_
  refine v_widen (cs' := 1) (ss' := 6) (by decide) (by decide) ?_
  exact v_iretY dL_run_22 rfl rfl rfl
