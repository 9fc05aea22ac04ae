def R_law : String := "StateTypesLaw"
def lw_P (b : Addr) (xs : List Int32) (args : Array Value) (s : State) : Prop := args = #[.ref b] ∧ s.IntsAt b xs ∧ xs.length ≤ 2560 ∧ (Jvm.Cond.and given_1 narrow_1).before args s = true
def lw_Q (_ : Array Value) (s : State) (o : Outcome) (t : State) : Prop := o = .returned (some (.int 1)) ∧ Framed s o t [] 1060 9585
def lw_Z (below : List Frame) (a : Array Value) (s : State) : State → Prop := fun t => ∃ o, t.status = .running ∧ Ended t below o ∧ lw_Q a s o t
/-- the law's own end, with 1 on the stack, nothing written that was there before, its room as the claim has it -/
theorem lw_ret {p : Program} {l : Launch} {e : Env} {s : State} {m : MethodId} {below : List Frame} {meth : Method} {c : Code} {b : Nat} (hx : p.tables.exec = Jvm.exec) (hb : c.code = code) (hr : meth.sig.returnType = ret) (hlocks : meth.locks = false) {pc : Nat} {H : Heap} {ls : Array Slot} (hdg : decode code pc = .ok (.ireturn, 1)) : W p l e room_1 s m #[Value.ref b] below meth c H [] 1060 9585 (lw_Z below #[Value.ref b] s) (F0 m pc ls [.int 1]) := by
  intro T hT X
  obtain ⟨fs, hret, hrun, hended, hW, hframe⟩ := X.leave (v := some (.int 1)) (hlocks := hlocks) (fun h => by rw [hr] at h; cases h)
  have hmeth' : T.vm.method? m = some meth := X.method'
  refine ⟨T.setFrames fs, ?_, .returned (some (.int 1)), hrun, hended, rfl, ⟨_, rfl⟩, hW, hframe⟩
  jvm_step X.here [X.here.top, hx, hb, hdg, hmeth', hr, ret, narrow_b1]
  (try refine ⟨rfl, ?_⟩); (try refine ⟨rfl, ?_⟩)
  first | (intro acts; rw [hret _ acts rfl rfl rfl]) | rw [hret _ _ rfl rfl rfl]
  exact Steps.refl _
/-- what holds at the law's entry: the machine, the code, the tables' words (any of lw_tbl by 'hts w (by decide +kernel)'), the script of L ints xs at the cell b, what the Statement gives of the start (any of its parts by flat_of_before) -/
def lw_At (p : Program) (s : State) (m : MethodId) (meth : Method) (c : Code) (b L : Nat) (xs : Nat → Int32) : Prop :=
  p.tables.exec = Jvm.exec ∧ c.code = code ∧ meth.sig.returnType = ret ∧ c.maxLocals = 7 ∧ s.vm.findClass R_law = some m.cls ∧ (∀ w ∈ lw_tbl, w.before #[Value.ref b] s = true) ∧ va_X b L xs s s.heap ∧ b < s.heap.size ∧ meth.locks = false ∧ (Jvm.Cond.and given_1 narrow_1).before #[Value.ref b] s = true
abbrev xLw (D : va_G) (cI cZ cJ : ClassId) (l : Launch) (b L : Nat) (xs : Nat → Int32) (sa : Nat → Nat) : XX := (D, tyL cI cZ cJ, l, room_1, [], (fun args below s => lw_Z below args s), (fun args s => args = #[Value.ref b] ∧ va_X b L xs s s.heap ∧ b < s.heap.size ∧ XPv sa s ∧ XPh (va_A [] s.heap.size) s s.heap))
abbrev kLw (nm : String) : KI := (code, wsL_law, RL, 7, ret, nm)
section LAWR
variable {D : va_G} {cI cZ cJ : ClassId} {l : Launch} {b L : Nat} {xs : Nat → Int32} {sa : Nat → Nat} {nm : String} {cs ss : Nat} {w : va_W} {pc : Nat} {lv : List (Nat × Value)} {st : List Value}
theorem notA {b n : Nat} (h : b < n) : ¬ va_A [] n b := by
  rintro (⟨k, e, h1⟩ | h1)
  · simp at h1
  · omega
theorem v_sld {i : Nat} {v : Int32} (pc' : Nat) (hp : pc + 1 = pc') (hd : decode code pc = .ok (.iaload, 1)) (hi : i < L) (hL : L < 2 ^ 31) (hv : xs i = v) (h : V (xLw D cI cZ cJ l b L xs sa) (kLw nm) cs ss w pc' lv (.int v :: st)) : V (xLw D cI cZ cJ l b L xs sa) (kLw nm) cs ss w pc lv (.int (nI i) :: .ref b :: st) := by
  subst hp
  subst hv
  intro p e s m args below meth c Z H locs ls hP hD hS hl
  obtain ⟨-, hX, hb, -, -⟩ := Z.2.2.2.2.2.2.2.2.2.2
  refine va_sld (L := L) (xs := xs) Z.1 Z.2.1 hX hb (notA hb) hS (vp_in_nI hi hL) hd ?_
  rw [nI_clamp (Nat.lt_trans hi hL)]
  exact h p e s m args below meth c Z H locs ls hP hD hS hl
theorem v_slen (pc' : Nat) (hp : pc + 1 = pc') (hd : decode code pc = .ok (.arraylength, 1)) (h : V (xLw D cI cZ cJ l b L xs sa) (kLw nm) cs ss w pc' lv (.int (nI L) :: st)) : V (xLw D cI cZ cJ l b L xs sa) (kLw nm) cs ss w pc lv (.ref b :: st) := by
  subst hp
  intro p e s m args below meth c Z H locs ls hP hD hS hl
  obtain ⟨-, hX, hb, -, -⟩ := Z.2.2.2.2.2.2.2.2.2.2
  exact va_slen (L := L) (xs := xs) Z.1 Z.2.1 hX hb (notA hb) hS hd (h p e s m args below meth c Z H locs ls hP hD hS hl)
theorem v_lcmp {x : XX} {k : KI} {a c : Int64} (pc' : Nat) (hp : pc + 1 = pc') (hd : decode k.1 pc = .ok (.lcmp, 1)) (h : V x k cs ss w pc' lv (.int (lg_cmp a c) :: st)) : V x k cs ss w pc lv (.long c :: .long a :: st) := by
  subst hp
  intro p e s m args below meth c' Z H locs ls hP hD hS hl
  exact W.lcmp Z.1 Z.2.1 hd (h p e s m args below meth c' Z H locs ls hP hD hS hl)
theorem v_lawret (hd : decode code pc = .ok (.ireturn, 1)) (hcs : cs ≤ 1060) (hss : ss ≤ 9585) : V (xLw D cI cZ cJ l b L xs sa) (kLw nm) cs ss w pc lv [.int 1] := by
  intro p e s m args below meth c Z H locs ls hP hD hS hl
  obtain ⟨rfl, -⟩ := Z.2.2.2.2.2.2.2.2.2.2
  refine va_forget (fun q hq => ?_) (W.widen hcs hss (lw_ret Z.1 Z.2.1 Z.2.2.2.2.2.2.2.2.1 Z.2.2.2.2.2.2.2.1 hd))
  rcases hS.2.2 q hq with ⟨i, e9, h9⟩ | h9
  · have h9 : ([] : va_W)[i]? = some (q.base, e9) := h9
    simp at h9
  · exact h9
/-- the call of StateTypesLaw.run -/
theorem v_callY {fr lo : Nat} {As : List Value} {Lw wc wc' : va_W} {r : Option Value} {S : List Value} (hM : KY D (tyL cI cZ cJ) l yL_run wsL_run fr lo As wc r wc' sa) (hn : As.length = 4) (hR : fr + 1 ≤ room_1.frames ∧ 8 + (5 + 11) + lo ≤ room_1.locals) (hst : S = As.reverse ++ st) (hcat : (st.map fun v => v.category).sum ≤ 8) (hcs : cs + 1 ≤ room_1.cells ∧ ss + 6 ≤ room_1.slots) (had : wc'.map (·.1) = wc.map (·.1))
    (h : V (xLw D cI cZ cJ l b L xs sa) (kLw nm) (cs + 1) (ss + 6) (Lw ++ wc') 550 lv (r.toList ++ st)) : V (xLw D cI cZ cJ l b L xs sa) (kLw nm) cs ss (Lw ++ wc) 547 lv S := by
  subst hst
  intro p e s m args below meth c Z H locs ls hP hD hS hl
  have hP' : va_P D vwCl (Lw ++ (wc ++ [])) H := by rw [List.append_nil]; exact hP
  have hD' : va_D (va_A [] s.heap.size) (Lw ++ (wc ++ [])) := by rw [List.append_nil]; exact hD
  have hPc := va_P.mid hP'
  have hDc := va_D.mid hD'
  obtain ⟨-, -, -, hxv, hxh⟩ := Z.2.2.2.2.2.2.2.2.2.2
  have hsub := k_sub hP' hD' hS (fun q hq => Or.inr hq)
  have hxh' : XPh (va_A wc H.size) s H := (hxh.kept hS.2.1).narrow hsub
  have hts := Z.2.2.2.2.1
  refine k_afterM (L := Lw) (Rr := []) (vx_runSW (own := RL) (hh := hhL) (As := As) (rest := st) (n := 4) ⟨Z.1, Z.2.1, Z.2.2.1, Z.2.2.2.1, hts⟩ (hM H.size) (vx_cwSW 4 hts gL_law_L_run rfl rfl rfl (by decide +kernel) hR) ⟨KPreX.blind, fun U hU hW => ⟨rfl, ⟨by rw [hU], by rw [hU]; exact hPc, va_K.moved hW.alike Z.2.2.2.2.2.1, NW.warm hW Z.2.2.2.2.2.2.1, hDc⟩, XPv.warm hW hxv, by rw [hU]; exact XPh.moved hW.alike hxh'⟩⟩ rfl hn hl.1 rfl (lv_room hcat) dL_law_547 hcs) hP' hD' hS (fun q hq => Or.inr hq) had (fun H1 locs1 hP1 hD1 hS1 => ?_)
  exact h p e s m args below meth c Z H1 locs1 ls (by rw [List.append_nil] at hP1; exact hP1) (by rw [List.append_nil] at hD1; exact hD1) hS1 hl
end LAWR
theorem i_and31 (x : Int32) : ∃ c : Nat, c < 32 ∧ x &&& nI 31 = nI c := by
  obtain ⟨k, rfl⟩ : ∃ k, x = nI k := ⟨x.toBitVec.toNat, by
    apply Int32.toBitVec_inj.mp
    simp [nI]⟩
  exact ⟨k &&& 31, Nat.lt_succ_of_le Nat.and_le_right, nx_and2 k 31⟩
theorem i_gt {a L : Nat} (ha : a < 2 ^ 20) (hL : L < 2 ^ 20) : nI L - nI 5 < nI a ↔ L < a + 5 := by
  by_cases h : 5 ≤ L
  · rw [pk_sub h, nI_ltI (by omega) (by omega)]
    omega
  · refine ⟨fun _ => by omega, fun _ => ?_⟩
    have hp : 0 ≤ nI a := Int32.not_lt.mp (nI_pos (n := a) (by omega))
    have hn : nI L - nI 5 < 0 := by
      rcases (show L = 0 ∨ L = 1 ∨ L = 2 ∨ L = 3 ∨ L = 4 by omega) with rfl | rfl | rfl | rfl | rfl <;> decide
    exact Int32.lt_of_lt_of_le hn hp
