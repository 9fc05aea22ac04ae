def shN (b : Int32) : Nat → Int32
  | 0 => b
  | k + 1 => sh1 (shN b k)
theorem bit1 (x : Int32) : (x &&& nI 1 = nI 1) ↔ x.toBitVec.toNat % 2 = 1 := by
  rw [pk_and x 1 (by decide)]
  exact nI_eq (by omega) (by omega)
theorem sh1_n (x : Int32) : (sh1 x).toBitVec.toNat = x.toBitVec.toNat / 2 := by
  unfold sh1
  rw [pk_ushr x (nI 1) 1 (by decide)]
theorem shN_n (b : Int32) : ∀ k, (shN b k).toBitVec.toNat = b.toBitVec.toNat / 2 ^ k
  | 0 => by simp [shN]
  | k + 1 => by rw [shN, sh1_n, shN_n b k, Nat.div_div_eq_div_mul, Nat.pow_succ]
theorem s32 : ∀ n, n < 32 → ((nI n &&& 31).toBitVec.smod 32).toNat = n := by decide
theorem toInt_c (y : Int32) : ∃ c : Int, (c = 0 ∨ c = 1) ∧ y.toInt = (y.toBitVec.toNat : Int) - c * 2 ^ 32 := by
  have h : y.toInt = y.toBitVec.toInt := rfl
  rw [h, BitVec.toInt_eq_toNat_cond]
  split
  · exact ⟨0, Or.inl rfl, by omega⟩
  · exact ⟨1, Or.inr rfl, by omega⟩
theorem sar_par (b : Int32) {k : Nat} (hk : k < 32) : (b >>> (nI k &&& 31)).toBitVec.toNat % 2 = b.toBitVec.toNat / 2 ^ k % 2 := by
  have e := pk_shr b (nI k &&& 31) k (s32 k hk)
  rw [Int.shiftRight_eq_div_pow] at e
  obtain ⟨c, hc, e1⟩ := toInt_c b
  obtain ⟨c', hc', e2⟩ := toInt_c (b >>> (nI k &&& 31))
  rw [e1, e2] at e
  have hp : ((2 : Int) ^ 32) = 2 * 2 ^ (31 - k) * 2 ^ k := by
    rw [Int.mul_assoc, ← Int.pow_add, show 31 - k + k = 31 by omega]
    rfl
  have h0 : ((2 ^ k : Nat) : Int) = 2 ^ k := by simp
  have hk0 : (2 : Int) ^ k ≠ 0 := by
    have := Int.pow_pos (n := 2) (m := k) (by omega)
    omega
  have e3 : ((b.toBitVec.toNat : Int) - c * 2 ^ 32) / ((2 ^ k : Nat) : Int) = (b.toBitVec.toNat : Int) / 2 ^ k + -(c * (2 * 2 ^ (31 - k))) := by
    rw [h0, ← Int.add_mul_ediv_right _ _ hk0, hp]
    congr 1
    rw [Int.sub_eq_add_neg, Int.neg_mul, ← Int.mul_assoc c]
  rw [e3] at e
  have e4 : ((b.toBitVec.toNat / 2 ^ k : Nat) : Int) = (b.toBitVec.toNat : Int) / 2 ^ k := by
    rw [Int.natCast_ediv, h0]
  rw [← e4] at e
  generalize (2 : Int) ^ (31 - k) = P at e
  generalize (b >>> (nI k &&& 31)).toBitVec.toNat = X at e ⊢
  generalize b.toBitVec.toNat / 2 ^ k = Y at e ⊢
  rcases hc with rfl | rfl <;> rcases hc' with rfl | rfl <;> omega
theorem rbit_eq {b : Int32} {n tk : Nat} (hn : n ≤ 32) : rbit (shN b (min tk n)) (n - tk) = (mbit b n tk, shN b (min (tk + 1) n), n - (tk + 1)) := by
  unfold rbit mbit
  by_cases h : n - tk = 0
  · rw [if_pos h, h, decide_eq_false (show ¬ tk < n by omega), show min tk n = n by omega, show min (tk + 1) n = n by omega, show n - (tk + 1) = 0 by omega]
    rfl
  · rw [if_neg h, decide_eq_true (show tk < n by omega), show min tk n = tk by omega, show min (tk + 1) n = tk + 1 by omega, Bool.true_and]
    congr 1
    rw [decide_eq_decide, bit1, bit1, shN_n, sar_par b (by omega)]
theorem sim_f {tn : Nat → Nat} {fb : Nat → Bool} {d v x A : Nat} (h : (sim tn fb d v x A).1 ≠ 0) : (sim tn fb d v x A).2 = A := by
  revert h
  unfold sim
  split
  · split <;> simp
  split
  · simp
  split
  · split <;> simp
  split
  · split <;> simp
  split <;> simp
/-- an open block's place in the row of open blocks -/
theorem base {ki : Nat → Int32} : ∀ (t : Nat) (pre : List Nat) (y : Nat) (r : List Nat), stk ki t = pre ++ y :: r → (dK ki y = 4 ∨ dK ki y = 7 → stk ki y = r) ∧ (dK ki y = 5 → (stk ki y).tail = r) := by
  intro t
  induction t with
  | zero => intro pre y r h; simp [stk] at h
  | succ t ih =>
    intro pre y r h
    simp only [stk] at h
    by_cases c1 : dK ki t = 4 ∨ dK ki t = 7
    · rw [if_pos c1] at h
      cases pre with
      | nil =>
        simp at h
        obtain ⟨rfl, h2⟩ := h
        exact ⟨fun _ => h2, fun q => by omega⟩
      | cons p0 pre =>
        simp at h
        exact ih pre y r h.2
    rw [if_neg c1] at h
    by_cases c2 : dK ki t = 5
    · rw [if_pos c2] at h
      cases pre with
      | nil =>
        simp at h
        obtain ⟨rfl, h2⟩ := h
        exact ⟨fun q => by omega, fun _ => h2⟩
      | cons p0 pre =>
        simp at h
        cases hs : stk ki t with
        | nil => rw [hs] at h; simp at h
        | cons b r' => rw [hs] at h; exact ih (b :: pre) y r (by rw [hs]; simpa using h.2)
    rw [if_neg c2] at h
    by_cases c3 : dK ki t = 6 ∨ dK ki t = 8
    · rw [if_pos c3] at h
      cases hs : stk ki t with
      | nil => rw [hs] at h; simp at h
      | cons b r' => rw [hs] at h; exact ih (b :: pre) y r (by rw [hs]; simpa using h)
    · rw [if_neg c3] at h
      exact ih pre y r h
section RUN
variable {ki nu fi se ju kd fs sc mi bh : Nat → Int32} {en : Nat} {tn : Nat → Nat} {fb : Nat → Bool}
/-- where the block that an entry begins is closed, and where a run goes on that doesn't do it -/
theorem clo (H : ∀ t, t < en → Tk ki nu fi se ju kd fs sc mi bh t) (h0 : stk ki en = []) {t n : Nat} {r : List Nat} (ht : t < en) (hs : stk ki (t + 1) = t :: r) (hn : nu t = nI n) (hn2 : n < 40) : ∃ e : Nat, t < e ∧ e < en ∧ ju t = nI (e + 1) ∧ cnt ki (e + 1) = cnt ki e ∧ ((dK ki t = 4 ∧ stk ki (e + 1) = e :: r ∧ dK ki e = 5 ∧ mi n = nI (cnt ki e)) ∨ (dK ki t = 5 ∧ stk ki (e + 1) = r ∧ bh n = nI (cnt ki e)) ∨ (dK ki t = 7 ∧ stk ki (e + 1) = r ∧ bh n = nI (cnt ki e))) := by
  obtain ⟨e, q1, q2, q3, q4⟩ := closes h0 (en - (t + 1)) (t + 1) (by omega) [] hs
  obtain ⟨d, n', v, x, hk, hd, hnu, hn', hf, hv, hs', hx, hx3, hst, hsi, h5, h6, h8⟩ := H e q2
  have ed : dK ki e = d := dK_of hk hd
  have ec : cnt ki (e + 1) = cnt ki e := by simp only [cnt, ed]; rw [if_neg (by omega)]; rfl
  rw [ed] at q4
  refine ⟨e, by omega, q2, ?_⟩
  rcases q4 with q | q | q
  · obtain ⟨b', r', s1, s2, s3, s4, s5⟩ := h5 q
    rw [q3] at s1; cases s1
    have e1 : n' = n := (nI_eq (by omega) (by omega)).mp (s2.symm.trans hn)
    subst e1
    exact ⟨s5, ec, Or.inl ⟨dK_of s3 (by omega), by simp only [stk, ed, q3, q]; rfl, by omega, s4⟩⟩
  · obtain ⟨b', r', s1, s2, s3, s4, s5⟩ := h6 q
    rw [q3] at s1; cases s1
    have e1 : n' = n := (nI_eq (by omega) (by omega)).mp (s2.symm.trans hn)
    subst e1
    exact ⟨s5, ec, Or.inr (Or.inl ⟨dK_of s3 (by omega), by simp only [stk, ed, q3, q]; rfl, s4⟩)⟩
  · obtain ⟨b', r', s1, s2, s3, s4, s5, s6⟩ := h8 q
    rw [q3] at s1; cases s1
    have e1 : n' = n := (nI_eq (by omega) (by omega)).mp (s2.symm.trans hn)
    subst e1
    exact ⟨s5, ec, Or.inr (Or.inr ⟨dK_of s3 (by omega), by simp only [stk, ed, q3, q]; rfl, s4⟩)⟩
def Jr (en t A rs : Nat) (rb : Int32) (rl : Nat) : Prop := t ≤ en ∧ Okh A ∧ rl ≤ 32
theorem rbit_l {rb : Int32} {rl : Nat} : (rbit rb rl).2.2 ≤ rl := by unfold rbit; split <;> simp
theorem Jr.step (hen : en ≤ 120) (ht : TN tn) (H : ∀ t, t < en → Tk ki nu fi se ju kd fs sc mi bh t) (h0 : stk ki en = []) (hju : ∀ i, ∃ j : Nat, j ≤ 120 ∧ ju i = nI j) {t A rs rl : Nat} {rb : Int32} (hte : t < en) (hJ : Jr en t A rs rb rl) :
    SafR ki fi se ju t A rl ∧ Okh (rstA tn fb ki fi se ju t A rs rb rl).2.2.1 ∧ Jr en (rstA tn fb ki fi se ju t A rs rb rl).2.1 (rstA tn fb ki fi se ju t A rs rb rl).2.2.1 (rstA tn fb ki fi se ju t A rs rb rl).2.2.2.1 (rstA tn fb ki fi se ju t A rs rb rl).2.2.2.2.1 (rstA tn fb ki fi se ju t A rs rb rl).2.2.2.2.2 := by
  obtain ⟨htl, hA, hl⟩ := hJ
  obtain ⟨d, n, v, x, hk, hd, hnu, hn, hf, hv, hs, hx, hx3, hst, hsi, h5, h6, h8⟩ := H t hte
  obtain ⟨j, hj, hje⟩ := hju t
  have ed : dK ki t = d := dK_of hk hd
  have e0 : rstA tn fb ki fi se ju t A rs rb rl = rst tn fb d v x j t A rs rb rl := by simp only [rstA]; rw [hk, hf, hs, hje, tN_nI (by omega), tN_nI (by omega), tN_nI (by omega), tN_nI (by omega)]
  rw [e0]
  refine ⟨⟨d, v, x, j, hk, hd, hje, hj, hf, hv, hs, hx, hx3, hA.1, hA.le, hl⟩, ?_⟩
  have hjo : (d = 4 ∨ d = 7 ∨ d = 5) → j ≤ en := fun q => by
    have hs1 : ∃ r, stk ki (t + 1) = t :: r := by
      simp only [stk, ed]
      by_cases c : d = 4 ∨ d = 7
      · rw [if_pos c]; exact ⟨_, rfl⟩
      · rw [if_neg c, if_pos (by omega)]; exact ⟨_, rfl⟩
    obtain ⟨r, hs1⟩ := hs1
    obtain ⟨e, a1, a2, a3, -⟩ := clo H h0 hte hs1 hnu hn
    have : j = e + 1 := (nI_eq (by omega) (by have := hj; omega)).mp (hje.symm.trans a3)
    omega
  by_cases c1 : d = 4 ∨ d = 7
  · have e : rst tn fb d v x j t A rs rb rl = (0, if (rbit rb rl).1 = true then t + 1 else j, A, rs + 1, (rbit rb rl).2.1, (rbit rb rl).2.2) := by simp only [rst, if_pos c1]
    rw [e]
    refine ⟨hA, ?_, hA, Nat.le_trans rbit_l hl⟩
    dsimp only
    split
    · omega
    · exact hjo (by omega)
  by_cases c2 : d = 5 ∨ d = 8
  · have e : rst tn fb d v x j t A rs rb rl = (0, j, A, rs, rb, rl) := by simp only [rst, if_neg c1, if_pos c2]
    rw [e]
    refine ⟨hA, ?_, hA, hl⟩
    dsimp only
    rcases c2 with q | q
    · exact hjo (by omega)
    · obtain ⟨b, r, s1, s2, s3, s4, s5, s6⟩ := h8 q
      have hb := (SO.mem (SO.of H t (by omega)) b (by rw [s1]; exact List.mem_cons_self)).1
      have : j = b := (nI_eq (by omega) (by omega)).mp (hje.symm.trans s6)
      omega
  by_cases c3 : d = 6
  · have e : rst tn fb d v x j t A rs rb rl = (0, t + 1, A, rs, rb, rl) := by simp only [rst, if_neg c1, if_neg c2, if_pos c3]
    rw [e]
    exact ⟨hA, by show t + 1 ≤ en; omega, hA, hl⟩
  by_cases c4 : (sim tn fb d v x A).1 = 0
  · have e : rst tn fb d v x j t A rs rb rl = (0, t + 1, (sim tn fb d v x A).2, rs + 1, rb, rl) := by simp only [rst, if_neg c1, if_neg c2, if_neg c3, if_pos c4]
    rw [e]
    have := sim_ok (fb := fb) ht hA hv hx hx3
    exact ⟨this, by show t + 1 ≤ en; omega, this, hl⟩
  · have e : rst tn fb d v x j t A rs rb rl = ((sim tn fb d v x A).1, t + 1, A, rs, rb, rl) := by simp only [rst, if_neg c1, if_neg c2, if_neg c3, if_neg c4]
    rw [e]
    exact ⟨hA, by show t + 1 ≤ en; omega, hA, hl⟩
theorem rrun_ok (hen : en ≤ 120) (ht : TN tn) (H : ∀ t, t < en → Tk ki nu fi se ju kd fs sc mi bh t) (h0 : stk ki en = []) (hju : ∀ i, ∃ j : Nat, j ≤ 120 ∧ ju i = nI j) (sm : Nat) : ∀ (m t A rs : Nat) (rb : Int32) (rl : Nat), Jr en t A rs rb rl → Okh (rrun tn fb ki nu fi se ju sm en m t A rs rb rl).2.2.2.1 ∧ (rrun tn fb ki nu fi se ju sm en m t A rs rb rl).1 < 9 ∧ (rrun tn fb ki nu fi se ju sm en m t A rs rb rl).2.2.2.2.2 ≤ 32 := by
  intro m
  induction m with
  | zero => intro t A rs rb rl h; exact ⟨h.2.1, by have := leav_v fb A 4 0; simp only [rrun]; omega, h.2.2⟩
  | succ m ih =>
    intro t A rs rb rl h
    simp only [rrun]
    by_cases q : t < en
    · rw [if_pos q]
      obtain ⟨-, h2, h3⟩ := Jr.step (fb := fb) hen ht H h0 hju q h
      by_cases q2 : (rstA tn fb ki fi se ju t A rs rb rl).1 = 0
      · rw [if_pos q2]; exact ih _ _ _ _ _ h3
      · rw [if_neg q2]; exact ⟨h2, rstA_lt tn fb ki fi se ju t A rs rb rl, h3.2.2⟩
    · rw [if_neg q]; exact ⟨h.2.1, by have := leav_v fb A 4 0; dsimp only; omega, h.2.2⟩
end RUN
/-- the blocks that a run has begun by a bit: no else blocks among them -/
def fil (ki : Nat → Int32) (s : List Nat) : List Nat := s.filter (fun y => decide (dK ki y ≠ 5))
def PilR (pi ot nu : Nat → Int32) : List Nat → Prop
  | [] => True
  | b :: r => pi r.length = nu b ∧ ot r.length = bI false ∧ PilR pi ot nu r
theorem PilR.keep {pi ot nu pi' ot' : Nat → Int32} : ∀ {s : List Nat}, (∀ i, i < s.length → pi' i = pi i ∧ ot' i = ot i) → PilR pi ot nu s → PilR pi' ot' nu s
  | [], _, _ => trivial
  | b :: r, h, ⟨a1, a2, a3⟩ => by
    obtain ⟨q1, q2⟩ := h r.length (by simp)
    exact ⟨by rw [q1]; exact a1, by rw [q2]; exact a2, PilR.keep (fun i hi => h i (by simp; omega)) a3⟩
theorem fil_cons {ki : Nat → Int32} {b : Nat} {r : List Nat} (h : dK ki b ≠ 5) : fil ki (b :: r) = b :: fil ki r := by simp [fil, h]
theorem fil_else {ki : Nat → Int32} {b : Nat} {r : List Nat} (h : dK ki b = 5) : fil ki (b :: r) = fil ki r := by simp [fil, h]
theorem fil_len (ki : Nat → Int32) (s : List Nat) : (fil ki s).length ≤ s.length := List.length_filter_le _ _
theorem fil_split {ki : Nat → Int32} {b : Nat} {r : List Nat} : ∀ {s : List Nat}, fil ki s = b :: r → ∃ pre r', s = pre ++ b :: r' ∧ dK ki b ≠ 5
  | [], h => by simp [fil] at h
  | y :: s, h => by
    by_cases q : dK ki y = 5
    · rw [fil_else q] at h
      obtain ⟨pre, r', e, hb⟩ := fil_split h
      exact ⟨y :: pre, r', by rw [e]; rfl, hb⟩
    · rw [fil_cons q] at h
      cases h
      exact ⟨[], s, rfl, q⟩

set_option maxHeartbeats 4000000 in
theorem mrun {D : va_G} {cI cZ cJ : ClassId} {l : Launch} {ad : Nat → Nat} {ki nu fi se ju : Nat → Int32} {en sm : Nat} {le : Nat → Int32} {la : Nat → Int32} {kd : Nat → Int32} {fs : Nat → Int32} {sc : Nat → Int32} {mi : Nat → Int32} {bh : Nat → Int32} {mz : Nat} {oo : Nat → Int32} {ie : Nat → Int32} {mo : Nat} {mp : Int32} {mt : Int32} {mc : Int32} {lf : Nat → Int32} {he : Nat → Int32} {bf : Nat → Int32} {ar : Nat → Int32} {w0 : va_W} (tn : Nat → Nat) (fb : Nat → Bool) (ht : TN tn) (hle : ∀ p s e : Nat, p < 3 → s < 5 → e < 4 → le (20 * p + 4 * s + e) = nI (tn ((8 * p + s) * 4 + e)) ∧ tn ((8 * p + s) * 4 + e) ≤ 5) (hla : ∀ p s : Nat, p < 3 → s < 5 → la (5 * p + s) = bI (fb (8 * p + s))) (hen : en ≤ 120) (hsm : sm = cnt ki en) (hs40 : sm ≤ 40) (hmz : mz = sm) (H : ∀ t, t < en → Tk ki nu fi se ju kd fs sc mi bh t) (h0 : stk ki en = []) (hl6 : ∀ t, t ≤ en → (stk ki t).length ≤ 6) (hlf : ∀ j, 4 ≤ j → lf j = 0) (b : Int32) (n : Nat) (hn : n ≤ 32) (R : Nat × Int32 × Nat × Nat × Int32 × Nat) : ∀ (M t A rs tk m ro : Nat) (pi ot : Nat → Int32), 121 * (32 - tk) + (en - t) ≤ M → t ≤ en → 2 * M + 2 ≤ m → ro + M < 4999 → tk ≤ ro → Okh A → PilR pi ot nu (fil ki (stk ki t)) → rrun tn fb ki nu fi se ju sm en m t A rs (shN b (min tk n)) (n - tk) = R →
    V (xN D (tyL cI cZ cJ) l 1 25 w0 (fun r w' => r = some (.int (nI R.2.2.1)) ∧ ∃ (no' pi' ot' : Nat → Int32) (md' : Nat), (∀ j, 4 ≤ j → no' j = 0) ∧ w' = wM ad cI cZ le la kd fs sc mi bh mz oo ie mo mp (nI R.1) R.2.1 R.2.2.1 (if R.1 = 0 then nI 0 else nI 2) mc no' (nowOf R.2.2.2.1) he pi' ot' bf ar md')) (cX5_run, wsX5_run, yX5_run.cls, 8, (some .int), yX5_run.name) 0 0 (wM ad cI cZ le la kd fs sc mi bh mz oo ie mo mp (nI 0) (-1) rs mt mc (nowOf A) lf he pi ot bf ar ((fil ki (stk ki t)).length)) 51 [(0, .ref (ad 0)), (1, .int b), (2, .int (nI n)), (3, .int (nI tk)), (4, .int (nI (cnt ki t))), (5, .int (nI ro))] [] := by
  subst hmz
  intro M
  induction M with
  | zero =>
    intro t A rs tk m ro pi ot hM ht1 hm hro htk hA hP hR
    have et : t = en := by omega
    subst et
    obtain ⟨m, rfl⟩ : ∃ m', m = m' + 1 := ⟨m - 1, by omega⟩
    simp only [rrun, if_neg (Nat.lt_irrefl t)] at hR
    refine mr_done b n tk (cnt ki t) ro hsm.symm (by rw [h0]; rfl) hs40 (by omega) hlf tn fb A hA hla ?_
    rw [← hR]
    exact ⟨rfl, nowOf A, pi, ot, _, fun j hj => nowOf_4 hj, rfl⟩
  | succ M ih =>
    intro t A rs tk m ro pi ot hM ht1 hm hro htk hA hP hR
    obtain ⟨m, rfl⟩ : ∃ m', m = m' + 1 := ⟨m - 1, by omega⟩
    by_cases hge : en ≤ t
    · have et : t = en := by omega
      subst et
      simp only [rrun, if_neg (Nat.lt_irrefl t)] at hR
      refine mr_done b n tk (cnt ki t) ro hsm.symm (by rw [h0]; rfl) hs40 (by omega) hlf tn fb A hA hla ?_
      rw [← hR]
      exact ⟨rfl, nowOf A, pi, ot, _, fun j hj => nowOf_4 hj, rfl⟩
    have hte : t < en := by omega
    obtain ⟨d, nn, v, x, hk, hd, hnu, hnn, hf, hv, hs, hx, hx3, hst, hsi, h5, h6, h8⟩ := H t hte
    have ed : dK ki t = d := dK_of hk hd
    have hctl := cnt_le (ki := ki) (show t + 1 ≤ en by omega)
    have hdepth := hl6 t (by omega)
    have hfl := fil_len ki (stk ki t)
    simp only [rrun, if_pos hte] at hR
    have e0 : rstA tn fb ki fi se ju t A rs (shN b (min tk n)) (n - tk) = rst tn fb d v x (tN (ju t)) t A rs (shN b (min tk n)) (n - tk) := by simp only [rstA]; rw [hk, hf, hs, tN_nI (by omega), tN_nI (by omega), tN_nI (by omega)]
    rw [e0] at hR
    by_cases hstm : d < 5 ∨ d = 7
    · obtain ⟨c1, c2⟩ := hst hstm
      have ec : cnt ki (t + 1) = cnt ki t + 1 := by simp only [cnt, ed]; rw [if_pos hstm]
      have pre : V (xN D (tyL cI cZ cJ) l 1 25 w0 (fun r w' => r = some (.int (nI R.2.2.1)) ∧ ∃ (no' pi' ot' : Nat → Int32) (md' : Nat), (∀ j, 4 ≤ j → no' j = 0) ∧ w' = wM ad cI cZ le la kd fs sc mi bh mz oo ie mo mp (nI R.1) R.2.1 R.2.2.1 (if R.1 = 0 then nI 0 else nI 2) mc no' (nowOf R.2.2.2.1) he pi' ot' bf ar md')) (cX5_run, wsX5_run, yX5_run.cls, 8, (some .int), yX5_run.name) 0 0 (wM ad cI cZ le la kd fs sc mi bh mz oo ie mo mp (nI 0) (-1) rs mt mc (nowOf A) lf he pi ot bf ar ((fil ki (stk ki t)).length)) 152 [(0, .ref (ad 0)), (1, .int b), (2, .int (nI n)), (3, .int (nI tk)), (4, .int (nI (cnt ki t))), (5, .int (nI ro)), (6, .int (-1))] [] → V (xN D (tyL cI cZ cJ) l 1 25 w0 (fun r w' => r = some (.int (nI R.2.2.1)) ∧ ∃ (no' pi' ot' : Nat → Int32) (md' : Nat), (∀ j, 4 ≤ j → no' j = 0) ∧ w' = wM ad cI cZ le la kd fs sc mi bh mz oo ie mo mp (nI R.1) R.2.1 R.2.2.1 (if R.1 = 0 then nI 0 else nI 2) mc no' (nowOf R.2.2.2.1) he pi' ot' bf ar md')) (cX5_run, wsX5_run, yX5_run.cls, 8, (some .int), yX5_run.name) 0 0 (wM ad cI cZ le la kd fs sc mi bh mz oo ie mo mp (nI 0) (-1) rs mt mc (nowOf A) lf he pi ot bf ar ((fil ki (stk ki t)).length)) 51 [(0, .ref (ad 0)), (1, .int b), (2, .int (nI n)), (3, .int (nI tk)), (4, .int (nI (cnt ki t))), (5, .int (nI ro))] [] := by
        intro h
        cases hsk : fil ki (stk ki t) with
        | nil =>
          rw [hsk] at h
          exact mr_pre0 b n tk (cnt ki t) ro hs40 (by omega) (by omega) rfl h
        | cons y r =>
          rw [hsk] at h hP hfl
          obtain ⟨pr, r', hs1, hy⟩ := fil_split hsk
          obtain ⟨i, e, d', z1, z2, z3, z4, z5, z6, z7⟩ := blk H h0 (show t ≤ en by omega) hs1
          have hlt := z7 (by rw [ed]; exact hstm) hte
          have edb : dK ki y = d' := dK_of z3 z4
          refine mr_pre1 b n tk (cnt ki t) ro hs40 (by omega) r.length i e rfl (by simp at hfl; omega) (by rw [hP.1]; exact z1) z2 ?_ (by omega) (by omega) (by omega) h
          rcases z5 with ⟨a1, a2, a3⟩ | ⟨a1, a2, a3⟩ | ⟨a1, a2, a3⟩
          · exact Or.inl ⟨a2, hP.2.1, a3⟩
          · omega
          · exact Or.inr (Or.inr ⟨a2, a3⟩)
      refine pre ?_
      by_cases d4 : d = 4 ∨ d = 7
      · have es : stk ki (t + 1) = t :: stk ki t := by simp only [stk, ed]; rw [if_pos d4]
        have h6' := hl6 (t + 1) (by omega)
        rw [es] at h6'
        simp at h6'
        refine mr_open b n tk (cnt ki t) ro (if d = 7 then 5 else d) (by omega) (by rw [← c1]; exact c2) (by split <;> omega) (by split <;> omega) ?_
        obtain ⟨e1, q1, q2, q3, q4, q5⟩ := clo H h0 hte es hnu hnn
        have er : rst tn fb d v x (tN (ju t)) t A rs (shN b (min tk n)) (n - tk) = (0, if mbit b n tk = true then t + 1 else e1 + 1, A, rs + 1, shN b (min (tk + 1) n), n - (tk + 1)) := by
          simp only [rst, if_pos d4]
          rw [rbit_eq hn, q3, tN_nI (by omega)]
        rw [er] at hR
        simp only [if_pos] at hR
        by_cases hbit : mbit b n tk = true
        · rw [if_pos hbit] at hR
          have htk32 : tk < n := by
            simp only [mbit, Bool.and_eq_true, decide_eq_true_eq] at hbit
            exact hbit.1
          refine mr_ask1 b n tk (cnt ki t) ro (cnt ki t) (by omega) hn (by omega) (by omega) hbit ?_
          rw [← ec]
          have ih1 := ih (t + 1) A (rs + 1) (tk + 1) m (ro + 1) (upd pi (fil ki (stk ki t)).length (nI (cnt ki t))) (upd ot (fil ki (stk ki t)).length (bI false)) (by omega) (by omega) (by omega) (by omega) (by omega) hA ?_ hR
          · rw [es, fil_cons (by omega), List.length_cons] at ih1
            exact ih1
          · rw [es, fil_cons (by omega)]
            exact ⟨by rw [hnu, c1]; exact pk_us, pk_us, PilR.keep (fun i hi => ⟨upd_lt hi, upd_lt hi⟩) hP⟩
        · have hbit' : mbit b n tk = false := by simpa using hbit
          rw [if_neg hbit] at hR
          rcases q5 with ⟨a1, a2, a3, a4⟩ | ⟨a1, a2, a3⟩ | ⟨a1, a2, a3⟩
          · refine mr_ask0I b n tk (cnt ki t) ro (cnt ki t) (by omega) hn (by omega) (by omega) (cnt ki e1) hbit' (by rw [← c1, c2, if_neg (by omega)]; congr 1; omega) (by rw [← c1]; exact a4) ?_
            have ih1 := ih (e1 + 1) A (rs + 1) (tk + 1) m (ro + 1) pi ot (by omega) (by omega) (by omega) (by omega) (by omega) hA (by rw [a2, fil_else a3]; exact hP) hR
            rw [a2, fil_else a3, q4] at ih1
            exact ih1
          · omega
          · refine mr_ask0W b n tk (cnt ki t) ro (cnt ki t) (by omega) hn (by omega) (by omega) (cnt ki e1) hbit' (by rw [← c1, c2, if_pos (by omega)]) (by rw [← c1]; exact a3) ?_
            have ih1 := ih (e1 + 1) A (rs + 1) (tk + 1) m (ro + 1) pi ot (by omega) (by omega) (by omega) (by omega) (by omega) hA (by rw [a2]; exact hP) hR
            rw [a2, q4] at ih1
            exact ih1
      · have hd4 : d < 4 := by omega
        have es : stk ki (t + 1) = stk ki t := by simp only [stk, ed]; rw [if_neg d4, if_neg (by omega), if_neg (by omega)]
        by_cases q : (sim tn fb d v x A).1 = 0
        · have er : rst tn fb d v x (tN (ju t)) t A rs (shN b (min tk n)) (n - tk) = (0, t + 1, (sim tn fb d v x A).2, rs + 1, shN b (min tk n), n - tk) := by simp only [rst, if_neg d4, if_neg (show ¬ (d = 5 ∨ d = 8) by omega), if_neg (show ¬ d = 6 by omega), if_pos q]
          rw [er] at hR
          simp only [if_pos] at hR
          refine mr_simple0 tn fb b n tk (cnt ki t) ro d v x A (by omega) hv hx hA (by rw [← c1]; exact (hsi hd4).1) (by rw [← c1]; exact (hsi hd4).2) (by rw [← c1, c2, if_neg (by omega)]) hd4 hx3 hle hla q ?_
          rw [← ec]
          have ih1 := ih (t + 1) _ (rs + 1) tk m (ro + 1) pi ot (by omega) (by omega) (by omega) (by omega) (by omega) (sim_ok (fb := fb) ht hA hv hx hx3) (by rw [es]; exact hP) hR
          rw [es] at ih1
          exact ih1
        · have er : rst tn fb d v x (tN (ju t)) t A rs (shN b (min tk n)) (n - tk) = ((sim tn fb d v x A).1, t + 1, A, rs, shN b (min tk n), n - tk) := by simp only [rst, if_neg d4, if_neg (show ¬ (d = 5 ∨ d = 8) by omega), if_neg (show ¬ d = 6 by omega), if_neg q]
          rw [er] at hR
          simp only [if_neg q] at hR
          refine mr_simpleF tn fb b n tk (cnt ki t) ro d v x A (by omega) hv hx hA (by rw [← c1]; exact (hsi hd4).1) (by rw [← c1]; exact (hsi hd4).2) (by rw [← c1, c2, if_neg (by omega)]) hd4 hx3 hle hla (by omega) ?_
          rw [sim_f q]
          refine mr_fault b n tk (cnt ki t + 1) (ro + 1) _ A (by omega) (sim_lt tn fb d v x A) (by omega) hlf ?_
          rw [← hR]
          refine ⟨rfl, nowOf A, pi, ot, (fil ki (stk ki t)).length, fun j hj => nowOf_4 hj, ?_⟩
          dsimp only
          rw [if_neg q, hnu, c1]
    · have ec : cnt ki (t + 1) = cnt ki t := by simp only [cnt, ed]; rw [if_neg hstm]; rfl
      obtain ⟨y, r, hsk, hnb⟩ : ∃ y r, stk ki t = y :: r ∧ nu y = nI nn := by
        rcases (show d = 5 ∨ d = 6 ∨ d = 8 by omega) with q | q | q
        · obtain ⟨b, r, a1, a2, -⟩ := h5 q; exact ⟨b, r, a1, a2⟩
        · obtain ⟨b, r, a1, a2, -⟩ := h6 q; exact ⟨b, r, a1, a2⟩
        · obtain ⟨b, r, a1, a2, -⟩ := h8 q; exact ⟨b, r, a1, a2⟩
      have hso := SO.of H t (by omega)
      rw [hsk] at hso hdepth
      simp at hdepth
      obtain ⟨hyt, ⟨d', n1, z1, z2, z3, z4, z5, z6⟩, -, -⟩ := id hso
      have en1 : n1 = nn := (nI_eq (by omega) (by omega)).mp (z3.symm.trans hnb)
      subst en1
      have edb : dK ki y = d' := dK_of z1 (by omega)
      have hfr := fil_len ki r
      by_cases d6 : d = 6
      · obtain ⟨b', r', s1, s2, s3, s4, s5⟩ := h6 d6
        rw [hsk] at s1; cases s1
        have e2 : dK ki y = 5 := dK_of s3 (by omega)
        have es : stk ki (t + 1) = r := by simp only [stk, ed, hsk, d6]; rfl
        have er : rst tn fb d v x (tN (ju t)) t A rs (shN b (min tk n)) (n - tk) = (0, t + 1, A, rs, shN b (min tk n), n - tk) := by simp only [rst, if_neg (show ¬ (d = 4 ∨ d = 7) by omega), if_neg (show ¬ (d = 5 ∨ d = 8) by omega), if_pos d6]
        rw [er] at hR
        simp only [if_pos] at hR
        rw [hsk, fil_else e2] at hP
        have ih1 := ih (t + 1) A rs tk m ro pi ot (by omega) (by omega) (by omega) (by omega) htk hA (by rw [es]; exact hP) hR
        rw [es, ec] at ih1
        rw [hsk, fil_else e2]
        exact ih1
      have hd5 : dK ki y ≠ 5 := by
        rcases (show d = 5 ∨ d = 8 by omega) with q | q
        · obtain ⟨b', r', s1, s2, s3, s4, s5⟩ := h5 q
          rw [hsk] at s1; cases s1
          rw [dK_of s3 (by omega)]; omega
        · obtain ⟨b', r', s1, s2, s3, s4, s5, s6⟩ := h8 q
          rw [hsk] at s1; cases s1
          rw [dK_of s3 (by omega)]; omega
      rw [hsk, fil_cons hd5] at hP
      obtain ⟨p1, p2, p3⟩ := hP
      have pre : (d' = 4 ∧ mi n1 = nI (cnt ki t)) ∨ (d' = 7 ∧ bh n1 = nI (cnt ki t)) → V (xN D (tyL cI cZ cJ) l 1 25 w0 (fun r w' => r = some (.int (nI R.2.2.1)) ∧ ∃ (no' pi' ot' : Nat → Int32) (md' : Nat), (∀ j, 4 ≤ j → no' j = 0) ∧ w' = wM ad cI cZ le la kd fs sc mi bh mz oo ie mo mp (nI R.1) R.2.1 R.2.2.1 (if R.1 = 0 then nI 0 else nI 2) mc no' (nowOf R.2.2.2.1) he pi' ot' bf ar md')) (cX5_run, wsX5_run, yX5_run.cls, 8, (some .int), yX5_run.name) 0 0 (wM ad cI cZ le la kd fs sc mi bh mz oo ie mo mp (nI 0) (-1) rs mt mc (nowOf A) lf he pi ot bf ar ((fil ki r).length + 1)) 101 [(0, .ref (ad 0)), (1, .int b), (2, .int (nI n)), (3, .int (nI tk)), (4, .int (nI (cnt ki t))), (5, .int (nI ro)), (6, .int (-1))] [] → V (xN D (tyL cI cZ cJ) l 1 25 w0 (fun r w' => r = some (.int (nI R.2.2.1)) ∧ ∃ (no' pi' ot' : Nat → Int32) (md' : Nat), (∀ j, 4 ≤ j → no' j = 0) ∧ w' = wM ad cI cZ le la kd fs sc mi bh mz oo ie mo mp (nI R.1) R.2.1 R.2.2.1 (if R.1 = 0 then nI 0 else nI 2) mc no' (nowOf R.2.2.2.1) he pi' ot' bf ar md')) (cX5_run, wsX5_run, yX5_run.cls, 8, (some .int), yX5_run.name) 0 0 (wM ad cI cZ le la kd fs sc mi bh mz oo ie mo mp (nI 0) (-1) rs mt mc (nowOf A) lf he pi ot bf ar ((fil ki (stk ki t)).length)) 51 [(0, .ref (ad 0)), (1, .int b), (2, .int (nI n)), (3, .int (nI tk)), (4, .int (nI (cnt ki t))), (5, .int (nI ro))] [] := by
        intro hq h
        have hbe : (kd n1 = nI 4 ∧ ot (fil ki r).length = bI false ∧ mi n1 = nI (cnt ki t)) ∨ (kd n1 = nI 4 ∧ ot (fil ki r).length = bI true ∧ bh n1 = nI (cnt ki t)) ∨ (kd n1 = nI 5 ∧ bh n1 = nI (cnt ki t)) := by
          rcases hq with ⟨q, q2⟩ | ⟨q, q2⟩
          · exact Or.inl ⟨by rw [z6, q]; rfl, p2, q2⟩
          · exact Or.inr (Or.inr ⟨by rw [z6, q]; rfl, q2⟩)
        rw [hsk, fil_cons hd5, List.length_cons]
        rcases Nat.lt_or_ge (cnt ki t) mz with q | q
        · exact mr_end1 b n tk (cnt ki t) ro hs40 (by omega) (fil ki r).length n1 (cnt ki t) rfl (by omega) (by rw [p1]; exact hnb) hnn hbe q rfl h
        · exact mr_end2 b n tk (cnt ki t) ro hs40 (by omega) (fil ki r).length n1 (cnt ki t) rfl (by omega) (by rw [p1]; exact hnb) hnn hbe (by omega) rfl h
      by_cases d5 : d = 5
      · obtain ⟨b', r', s1, s2, s3, s4, s5⟩ := h5 d5
        rw [hsk] at s1; cases s1
        have e2 : d' = 4 := (nI_eq (by omega) (by omega)).mp (z1.symm.trans s3)
        refine pre (Or.inl ⟨e2, s4⟩) ?_
        have es : stk ki (t + 1) = t :: r := by simp only [stk, ed, hsk, d5]; rfl
        obtain ⟨e1, q1, q2, q3, q4, q5⟩ := clo H h0 hte es hnu hnn
        have er : rst tn fb d v x (tN (ju t)) t A rs (shN b (min tk n)) (n - tk) = (0, e1 + 1, A, rs, shN b (min tk n), n - tk) := by
          simp only [rst, if_neg (show ¬ (d = 4 ∨ d = 7) by omega), if_pos (show d = 5 ∨ d = 8 by omega)]
          rw [q3, tN_nI (by omega)]
        rw [er] at hR
        simp only [if_pos] at hR
        rcases q5 with ⟨a1, -⟩ | ⟨a1, a2, a3⟩ | ⟨a1, -⟩
        · omega
        · refine mr_endI b n tk (cnt ki t) ro (fil ki r).length n1 (cnt ki e1) rfl (by omega) (by rw [p1]; exact hnb) hnn a3 (by rw [z6, e2]; rfl) ?_
          have ih1 := ih (e1 + 1) A rs tk m (ro + 1) pi ot (by omega) (by omega) (by omega) (by omega) (by omega) hA (by rw [a2]; exact p3) hR
          rw [a2, q4] at ih1
          exact ih1
        · omega
      · have d8 : d = 8 := by omega
        obtain ⟨b', r', s1, s2, s3, s4, s5, s6⟩ := h8 d8
        rw [hsk] at s1; cases s1
        have e2 : d' = 7 := (nI_eq (by omega) (by omega)).mp (z1.symm.trans s3)
        refine pre (Or.inr ⟨e2, s4⟩) ?_
        have es : stk ki (t + 1) = r := by simp only [stk, ed, hsk, d8]; rfl
        have hby := (base t [] y r hsk).1 (by omega)
        have esy : stk ki (y + 1) = y :: r := by simp only [stk, edb, e2]; rw [hby]; rfl
        obtain ⟨dy, ny, vy, xy, hky, hdy, hnuy, hnny, hfy, hvy, hsy, hxy, -, hsty, -⟩ := H y (by omega)
        have edy : dy = 7 := (nI_eq (by omega) (by omega)).mp (hky.symm.trans s3)
        have eny : ny = n1 := (nI_eq (by omega) (by omega)).mp (hnuy.symm.trans hnb)
        subst eny
        obtain ⟨cy, -⟩ := hsty (by omega)
        have ecy : cnt ki (y + 1) = cnt ki y + 1 := by simp only [cnt, edb, e2]; rfl
        have er : rst tn fb d v x (tN (ju t)) t A rs (shN b (min tk n)) (n - tk) = (0, y, A, rs, shN b (min tk n), n - tk) := by
          simp only [rst, if_neg (show ¬ (d = 4 ∨ d = 7) by omega), if_pos (show d = 5 ∨ d = 8 by omega)]
          rw [s6, tN_nI (by omega)]
        rw [er] at hR
        simp only [if_pos] at hR
        obtain ⟨m, rfl⟩ : ∃ m', m = m' + 1 := ⟨m - 1, by omega⟩
        simp only [rrun, if_pos (show y < en by omega)] at hR
        have e0y : rstA tn fb ki fi se ju y A rs (shN b (min tk n)) (n - tk) = (0, if mbit b n tk = true then y + 1 else t + 1, A, rs + 1, shN b (min (tk + 1) n), n - (tk + 1)) := by
          simp only [rstA]
          rw [s3, tN_nI (by omega)]
          rw [rst, if_pos (Or.inr rfl : (7 : Nat) = 4 ∨ (7 : Nat) = 7), rbit_eq hn, s5, tN_nI (by omega)]
        rw [e0y] at hR
        simp only [if_pos] at hR
        refine mr_endW b n tk (cnt ki t) ro (fil ki r).length ny (cnt ki t) rfl (by omega) (by rw [p1]; exact hnb) hnn s4 (by rw [z6, e2]; rfl) ?_
        by_cases hbit : mbit b n tk = true
        · rw [if_pos hbit] at hR
          have htk32 : tk < n := by
            simp only [mbit, Bool.and_eq_true, decide_eq_true_eq] at hbit
            exact hbit.1
          refine mr_ask1 b n tk (cnt ki t) ro ny hnn hn (by omega) (by omega) hbit ?_
          have ih1 := ih (y + 1) A (rs + 1) (tk + 1) m (ro + 1) (upd pi (fil ki r).length (nI ny)) (upd ot (fil ki r).length (bI false)) (by omega) (by omega) (by omega) (by omega) (by omega) hA ?_ hR
          · rw [esy, fil_cons hd5, List.length_cons, ecy, ← cy] at ih1
            exact ih1
          · rw [esy, fil_cons hd5]
            exact ⟨by rw [hnb]; exact pk_us, pk_us, PilR.keep (fun i hi => ⟨upd_lt hi, upd_lt hi⟩) p3⟩
        · have hbit' : mbit b n tk = false := by simpa using hbit
          rw [if_neg hbit] at hR
          refine mr_ask0W b n tk (cnt ki t) ro ny hnn hn (by omega) (by omega) (cnt ki t) hbit' (by rw [z6, e2]; rfl) s4 ?_
          have ih1 := ih (t + 1) A (rs + 1) (tk + 1) m (ro + 1) pi ot (by omega) (by omega) (by omega) (by omega) (by omega) hA (by rw [es]; exact p3) hR
          rw [es, ec] at ih1
          exact ih1

