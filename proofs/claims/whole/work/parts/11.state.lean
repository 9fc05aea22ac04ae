abbrev tyL (cI cZ cJ : ClassId) : List (ClassId × FieldType) := [(cI, .int), (cZ, .boolean), (cJ, .long)]
abbrev wC (ad : Nat → Nat) (cI cZ : ClassId) (tg : Nat → Int32) (fn : Nat → Int32) (ki : Nat → Int32) (nu : Nat → Int32) (fi : Nat → Int32) (se : Nat → Int32) (ju : Nat → Int32) (op : Nat → Int32) (en : Nat) (sm : Nat) (ob : Nat) (be : Nat → Int32) (af : Nat → Int32) (pl : Int32) (rf : Int32) (rp : Int32) (rs : Nat) (ra : Nat) (rb : Int32) (rl : Nat) : va_W := [(ad 0, .inr (4, [.ref (ad 1), .ref (ad 4), .ref (ad 11), .ref (ad 14)])), (ad 1, .inr (2, [.ref (ad 2), .ref (ad 3)])), (ad 2, .inl (cI, 96, .inl tg)), (ad 3, .inl (cZ, 24, .inl fn)), (ad 4, .inr (1, [.ref (ad 5), .ref (ad 6), .ref (ad 7), .ref (ad 8), .ref (ad 9), .ref (ad 10), .int (nI en), .int (nI sm), .int (nI ob)])), (ad 5, .inl (cI, 120, .inl ki)), (ad 6, .inl (cI, 120, .inl nu)), (ad 7, .inl (cI, 120, .inl fi)), (ad 8, .inl (cI, 120, .inl se)), (ad 9, .inl (cI, 120, .inl ju)), (ad 10, .inl (cI, 6, .inl op)), (ad 11, .inr (0, [.ref (ad 4), .ref (ad 1), .ref (ad 12), .ref (ad 13), .int pl])), (ad 12, .inl (cI, 40, .inl be)), (ad 13, .inl (cI, 40, .inl af)), (ad 14, .inr (3, [.ref (ad 4), .ref (ad 1), .int rf, .int rp, .int (nI rs), .int (nI ra), .int rb, .int (nI rl)]))]
abbrev wM (ad : Nat → Nat) (cI cZ : ClassId) (le : Nat → Int32) (la : Nat → Int32) (kd : Nat → Int32) (fs : Nat → Int32) (sc : Nat → Int32) (mi : Nat → Int32) (bh : Nat → Int32) (mz : Nat) (oo : Nat → Int32) (ie : Nat → Int32) (mo : Nat) (mp : Int32) (mf : Int32) (mq : Int32) (ms : Nat) (mt : Int32) (mc : Int32) (no : Nat → Int32) (lf : Nat → Int32) (he : Nat → Int32) (pi : Nat → Int32) (ot : Nat → Int32) (bf : Nat → Int32) (ar : Nat → Int32) (md : Nat) : va_W := [(ad 0, .inr (5, [.ref (ad 1), .ref (ad 2), .ref (ad 3), .ref (ad 4), .ref (ad 5), .ref (ad 6), .ref (ad 7), .int (nI mz), .ref (ad 8), .ref (ad 9), .int (nI mo), .int mp, .int mf, .int mq, .int (nI ms), .int mt, .int mc, .ref (ad 10), .ref (ad 11), .ref (ad 12), .ref (ad 13), .ref (ad 14), .ref (ad 15), .ref (ad 16), .int (nI md)])), (ad 1, .inl (cI, 60, .inl le)), (ad 2, .inl (cZ, 15, .inl la)), (ad 3, .inl (cI, 40, .inl kd)), (ad 4, .inl (cI, 40, .inl fs)), (ad 5, .inl (cI, 40, .inl sc)), (ad 6, .inl (cI, 40, .inl mi)), (ad 7, .inl (cI, 40, .inl bh)), (ad 8, .inl (cI, 6, .inl oo)), (ad 9, .inl (cZ, 6, .inl ie)), (ad 10, .inl (cI, 4, .inl no)), (ad 11, .inl (cI, 4, .inl lf)), (ad 12, .inl (cI, 160, .inl he)), (ad 13, .inl (cI, 6, .inl pi)), (ad 14, .inl (cZ, 6, .inl ot)), (ad 15, .inl (cI, 24, .inl bf)), (ad 16, .inl (cI, 24, .inl ar))]
def bel (a b : Int32) : Bool := !decide (a < 0) && !decide (b ≤ a)
def wth (a b : Int32) : Bool := !decide (a < 0) && !decide (b < a)
def oI (n : Nat) : Int32 := nI n - nI 1
theorem bel_N {a b : Nat} (ha : a < 2 ^ 31) (hb : b < 2 ^ 31) : bel (nI a) (nI b) = decide (a < b) := by
  simp only [bel, nI_leI hb ha, nI_pos ha, decide_false, Bool.not_false, Bool.true_and]
  by_cases h : a < b
  · simp [h]
  · simp [h, Nat.not_lt.mp h]
theorem bel_t {x : Int32} {b : Nat} (hb : b < 2 ^ 31) (h : bel x (nI b) = true) : ∃ j : Nat, j < b ∧ x = nI j := by
  simp only [bel, Bool.and_eq_true, Bool.not_eq_true', decide_eq_false_iff_not] at h
  obtain ⟨j, hj, rfl⟩ := nI_of h.1
  exact ⟨j, by have := h.2; rw [nI_leI hb hj] at this; omega, rfl⟩
theorem bel_m1 {b : Nat} : bel (-1) (nI b) = false := by simp [bel]
theorem oI_0 : oI 0 = -1 := by decide
theorem oI_s (n : Nat) : oI (n + 1) = nI n := nI_pred n
theorem oI_p {n : Nat} (h : 0 < n) : oI n = nI (n - 1) := by obtain ⟨k, rfl⟩ : ∃ k, n = k + 1 := ⟨n - 1, by omega⟩; exact oI_s k
theorem oI_add (n : Nat) : oI n + nI 1 = nI n := by simp [oI, Int32.sub_add_cancel]
theorem oI_inj {a b : Nat} (ha : a < 2 ^ 31) (hb : b < 2 ^ 31) (h : oI a = oI b) : a = b := by
  have := congrArg (· + nI 1) h
  simp only [oI_add] at this
  exact (nI_eq ha hb).mp this
theorem nI_ne_m1 {n : Nat} (h : n < 2 ^ 31) : nI n ≠ -1 := fun z => by
  have := nI_pos (n := n) h
  rw [z] at this
  exact this (by decide)
