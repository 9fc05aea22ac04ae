/-! contracts whose end is one of several worlds -/
def KEPost (D : va_G) (w : va_W) (Pr : Option Value → va_W → Prop) (sz : Nat) (st : State) (oc : Outcome) (t : State) : Prop := ∃ (r : Option Value) (w' : va_W), Pr r w' ∧ oc = .returned r ∧ va_P D vwCl w' t.heap ∧ va_F (va_A w sz) st t
def KE (D : va_G) (tys : List (ClassId × FieldType)) (l : Launch) (y : MethodName) (ws : List Cond) (fr lo : Nat) (av : List Value) (w : va_W) (Pr : Option Value → va_W → Prop) : Prop :=
  ∀ sz : Nat, Met l y ws (rmK fr lo) (va_Pc av (KPre D tys w sz)) (fun _ st oc t => KEPost D w Pr sz st oc t) 0 0 (va_A w sz)
abbrev xN (D : va_G) (tys : List (ClassId × FieldType)) (l : Launch) (fr lo : Nat) (w : va_W) (Pr : Option Value → va_W → Prop) : XX := (D, tys, l, rmK fr lo, w, (fun args below s => MQ below (fun _ st oc t => KEPost D w Pr s.heap.size st oc t) args s 0 0 (va_A w s.heap.size)), (fun _ _ => True))
theorem KE.of {D : va_G} {tys : List (ClassId × FieldType)} {l : Launch} {y : MethodName} {ws ws' : List Cond} {fr lo : Nat} {av : List Value} {w : va_W} {Pr : Option Value → va_W → Prop} {cc : ByteArray} {nL : Nat} {ret : Option FieldType} (hy : plainName y.cls = true) (hw : ws = Cond.code y cc nL ret :: ws') (hlen : (lg_sl av).length ≤ nL)
    (body : V (xN D tys l fr lo w Pr) (cc, ws, y.cls, nL, ret, y.name) 0 0 w 0 (lv_args 0 av) []) : KE D tys l y ws fr lo av w Pr := by
  intro sz
  refine Met.ofW (cc := cc) (maxL := nL) (ret := ret) hy hw ?_
  intro p e s m args below meth c s₁ B hml hv
  obtain ⟨rfl, hsz, hP, hK, hN, hD0⟩ := hv
  subst hsz
  have hl := lv_entry av (n := nL) hlen
  rw [lg_entry_eq]
  exact body p e s m av.toArray below meth c ⟨B.exec, B.bytes, hml, findClass_of_methodNamed B.named, atoms_spec (ws := ws) B.pre, hK, hN, B.notSynchronized, B.returns, (name_of_methodNamed B.named B.method).1, trivial⟩ s.heap [] _ hP hD0.self va_S.rf hl
section KEX
variable {x : XX} {k : KI} {cs ss : Nat} {w : va_W} {pc : Nat} {lv : List (Nat × Value)} {st : List Value}
theorem v_iretE {D : va_G} {tys : List (ClassId × FieldType)} {l : Launch} {fr lo : Nat} {w0 : va_W} {Pr : Option Value → va_W → Prop} {v : Int32} (hd : decode k.1 pc = .ok (.ireturn, 1)) (hr : kR k = some .int) (hv : Pr (some (.int v)) w) : V (xN D tys l fr lo w0 Pr) k 0 0 w pc lv [.int v] := by
  intro p e s m args below meth c Z H locs ls hP hD hS hl
  have hlocks := Z.2.2.2.2.2.2.2.1
  show W p l e (rmK fr lo) s m args below meth c H locs 0 0 (MQ below (fun _ st oc t => KEPost D w0 Pr s.heap.size st oc t) args s 0 0 (va_A w0 s.heap.size)) (F0 m pc ls [.int v])
  exact W.iret Z.1 Z.2.1 (Z.2.2.2.2.2.2.2.2.1.trans hr) (fun t ht hW => ⟨_, _, hv, rfl, by rw [ht]; exact hP, hS.F ht⟩) hS.2.2 hd
end KEX
section CALLE
variable {p : Program} {l : Launch} {e : Env} {R : Room} {s : State} {m : MethodId} {args : Array Value} {below : List Frame} {meth : Method} {c : Code} {H : Heap} {locs : List Loc} {cells slots : Nat} {Q : State → Prop}
theorem k_afterE {D : va_G} {pc : Nat} {ls : Array Slot} {st0 rest : List Value} {L wc Rr : va_W} {Pr : Option Value → va_W → Prop} {H0 : Heap} {A0 : Nat → Prop} (hr : va_Run p l e R s m args below meth c H locs cells slots 0 0 (F0 m pc ls st0) rest (fun st oc t => KEPost D wc Pr H.size st oc t) (va_A wc H.size))
    (hP : va_P D vwCl (L ++ (wc ++ Rr)) H) (hD : va_D A0 (L ++ (wc ++ Rr))) (hS : va_S A0 H0 H locs) (hA : ∀ q, H0.size ≤ q → A0 q) (had : ∀ r wc', Pr r wc' → wc'.map (·.1) = wc.map (·.1))
    (kk : ∀ (r : Option Value) (wc' : va_W), Pr r wc' → ∀ (H1 : Heap) (locs1 : List Loc), va_P D vwCl (L ++ (wc' ++ Rr)) H1 → va_D A0 (L ++ (wc' ++ Rr)) → va_S A0 H0 H1 locs1 → W p l e R s m args below meth c H1 locs1 cells slots Q (F0 m (pc + 3) ls (r.toList ++ rest))) : W p l e R s m args below meth c H locs cells slots Q (F0 m pc ls st0) := by
  intro T hT X
  obtain ⟨v, st₀, t, T', L', h0, X', hL, e1, e2, ⟨r, wc', hPr, hv, hb, hz, hk⟩, st⟩ := hr T hT X
  cases hv
  have had := had _ _ hPr
  rw [h0] at hz hk
  have hlen : wc'.length = wc.length := by
    have := congrArg List.length had
    simpa using this
  have hF : ∀ q, va_A wc H.size q → A0 q := by
    rintro q (⟨i, e0, hi⟩ | hi)
    · have hlt : i < wc.length := (List.getElem?_eq_some_iff.mp hi).1
      exact hD.2 (L.length + i) (q, e0) (by rw [List.getElem?_append_right (by omega), show L.length + i - L.length = i by omega, List.getElem?_append_left hlt]; exact hi)
    · exact hA q (Nat.le_trans hS.1 hi)
  have hD' : va_D A0 (L ++ (wc' ++ Rr)) := by
    have hm : (L ++ (wc' ++ Rr)).map (·.1) = (L ++ (wc ++ Rr)).map (·.1) := by simp [had]
    have look : ∀ (i : Nat) (q : Nat × va_E), (L ++ (wc' ++ Rr))[i]? = some q → ∃ q', (L ++ (wc ++ Rr))[i]? = some q' ∧ q'.1 = q.1 := by
      intro i q hq
      have h1 : ((L ++ (wc' ++ Rr)).map (·.1))[i]? = some q.1 := by rw [List.getElem?_map, hq]; rfl
      rw [hm, List.getElem?_map] at h1
      cases hh : (L ++ (wc ++ Rr))[i]? with
      | none => rw [hh] at h1; cases h1
      | some q' => rw [hh] at h1; exact ⟨q', rfl, Option.some.inj h1⟩
    refine ⟨fun i j a b ha hb hab => ?_, fun i q hq => ?_⟩
    · obtain ⟨a', ha', ea⟩ := look i a ha
      obtain ⟨b', hb', eb⟩ := look j b hb
      exact hD.1 i j a' b' ha' hb' (by rw [ea, eb, hab])
    · obtain ⟨q', hq', eq⟩ := look i q hq
      rw [← eq]
      exact hD.2 i q' hq'
  have apart : ∀ (i : Nat) (q : Nat × va_E), (L ++ (wc ++ Rr))[i]? = some q → (i < L.length ∨ L.length + wc.length ≤ i) → q.1 < H.size ∧ ¬ va_A wc H.size q.1 := by
    intro i q hq hi
    have hlt := (hP i q hq).lt
    refine ⟨hlt, ?_⟩
    rintro (⟨j, e0, hj⟩ | hj)
    · have hjl : j < wc.length := (List.getElem?_eq_some_iff.mp hj).1
      have hj' : (L ++ (wc ++ Rr))[L.length + j]? = some (q.1, e0) := by rw [List.getElem?_append_right (by omega), show L.length + j - L.length = j by omega, List.getElem?_append_left hjl]; exact hj
      have := hD.1 i (L.length + j) q (q.1, e0) hq hj' rfl
      omega
    · omega
  have hPn : va_P D vwCl (L ++ (wc' ++ Rr)) t.heap := by
    intro i q hq
    by_cases h1 : i < L.length
    · rw [List.getElem?_append_left h1] at hq
      have hq' : (L ++ (wc ++ Rr))[i]? = some q := by rw [List.getElem?_append_left h1]; exact hq
      obtain ⟨g1, g2⟩ := apart i q hq' (Or.inl h1)
      exact (hP i q hq').kept (hk q.1 g1 g2)
    · by_cases h2 : i < L.length + wc.length
      · rw [List.getElem?_append_right (by omega), List.getElem?_append_left (by omega)] at hq
        exact hb _ q hq
      · rw [List.getElem?_append_right (by omega), List.getElem?_append_right (by omega), hlen] at hq
        have hq' : (L ++ (wc ++ Rr))[i]? = some q := by rw [List.getElem?_append_right (by omega), List.getElem?_append_right (by omega)]; exact hq
        obtain ⟨g1, g2⟩ := apart i q hq' (Or.inr (by omega))
        exact (hP i q hq').kept (hk q.1 g1 g2)
  obtain ⟨t2, a1, b1⟩ := kk _ _ hPr T'.heap (locs ++ L') (by rw [e1]; exact hPn) hD'
    ⟨Nat.le_trans hS.1 (by rw [e1]; exact hz), fun q h1 h2 => by rw [e1, hk q (Nat.lt_of_lt_of_le h1 hS.1) (fun z => h2 (hF q z))]; exact hS.2.1 q h1 h2, fun q hq => by
      rcases List.mem_append.mp hq with h | h
      · exact hS.2.2 q h
      · exact hF _ (hL q h)⟩ T' rfl X'
  exact ⟨t2, st t2 a1, b1⟩
end CALLE
section CALLE2
variable {x : XX} {k : KI} {cs ss : Nat} {w : va_W} {pc : Nat} {lv : List (Nat × Value)} {st : List Value}
theorem v_callVE {y : MethodName} {wsY wsr : List Cond} {fr lo maxL n idx b ci q0 : Nat} {bytes : ByteArray} {ret : Option FieldType} {C : String} {qC : vw_C} {fs : List Value} {As : List Value} {Pr : Option Value → va_W → Prop} {S : List Value} (L wc Rr : va_W) (pc' : Nat) (hp : pc + 3 = pc') (hM : KE (xD x) (xT x) (xl x) y wsY fr lo (.ref b :: As) wc Pr) (hg : GoodIn (kT k) (wsV (kO k) idx C y wsY)) (hwy : wsY = Cond.code y bytes maxL ret :: wsr)
    (hdc : y.cls = C ∧ y.cls ≠ "java/lang/invoke/MethodHandle" ∧ y.cls ≠ "java/lang/invoke/VarHandle" ∧ (parseMethodDescriptor y.desc).map (fun d => d.parameters.length) = some n) (hn : As.length = n) (hR : fr + 1 ≤ (xR x).frames ∧ 8 + (maxL + 11) + lo ≤ (xR x).locals) (hst : S = As.reverse ++ .ref b :: st) (hcat : (st.map fun v => v.category).sum ≤ 8) (hc : vwCl[ci]? = some qC) (hC : qC.1 = C) (he : wc[q0]? = some (b, .inr (ci, fs)))
    (hd : decode k.1 pc = .ok (.invokevirtual idx, 3)) (hcs : cs ≤ (xR x).cells ∧ ss ≤ (xR x).slots) (had : ∀ r wc', Pr r wc' → wc'.map (·.1) = wc.map (·.1)) (hw : w = L ++ (wc ++ Rr)) (h : ∀ r wc', Pr r wc' → V x k cs ss (L ++ (wc' ++ Rr)) pc' lv (r.toList ++ st)) : V x k cs ss w pc lv S := by
  subst hp
  subst hw
  subst hst
  intro p e s m args below meth c Z H locs ls hP hD hS hl
  have hPc := va_P.mid hP
  have hDc := va_D.mid hD
  have hrec := va_recv Z.2.2.2.2.2.1 hPc hc he
  rw [hC] at hrec
  refine k_afterE (va_runV (As := As) (rest := st) (n := n) ⟨Z.1, Z.2.1, Z.2.2.1, Z.2.2.2.1, Z.2.2.2.2.1⟩ (hM H.size) (cwV n Z.2.2.2.2.1 hg hwy rfl rfl hdc hR) ⟨KPre.blind, hrec, fun U hU hW => ⟨rfl, by rw [hU], by rw [hU]; exact hPc, va_K.moved hW.alike Z.2.2.2.2.2.1, NW.warm hW Z.2.2.2.2.2.2.1, hDc⟩⟩ rfl hn hl.1 rfl (lv_room hcat) hd hcs) hP hD hS (fun q hq => Or.inr hq) had (fun r wc' hPr H1 locs1 hP1 hD1 hS1 => h r wc' hPr p e s m args below meth c Z H1 locs1 ls hP1 hD1 hS1 hl)
end CALLE2
