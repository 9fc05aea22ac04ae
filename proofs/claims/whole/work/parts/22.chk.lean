theorem Okh.wh {A v n : Nat} (h : Okh A) (hv : v < 4) (hn : n = 0 ∨ ∃ p s : Nat, p < 3 ∧ s < 5 ∧ n = 8 * p + s + 1) : Okh (wh A v n) := by
  have hn2 : n < 32 := by rcases hn with q | ⟨p, s, a, b, e⟩ <;> omega
  refine ⟨wh_lt h.1 hv hn2, fun u hu => ?_⟩
  by_cases e : u = v
  · rw [e, hb_wh_same h.1 hv hn2]; exact hn
  · rw [hb_wh_ne h.1 hv hu hn2 e]; exact h.2 u hu
theorem Okh.zero : Okh 0 := ⟨by omega, fun v _ => Or.inl (hb_zero v)⟩
/-- the tables: where events lead (tn: 0 nowhere), which states are final (fb) -/
def TN (tn : Nat → Nat) : Prop := ∀ p s e : Nat, p < 3 → s < 5 → e < 4 → tn ((8 * p + s) * 4 + e) ≤ 5
theorem sim_ok {tn : Nat → Nat} {fb : Nat → Bool} {d v x A : Nat} (ht : TN tn) (h : Okh A) (hv : v < 4) (hx : x < 4) (hx3 : d = 0 → x < 3) : Okh (sim tn fb d v x A).2 := by
  unfold sim
  split
  · split
    · exact h
    · exact h.wh hv (Or.inr ⟨x, 0, hx3 (by assumption), by omega, by omega⟩)
  split
  · exact h
  rename_i h0
  obtain ⟨p, s, hp, hs, ho⟩ : ∃ p s : Nat, p < 3 ∧ s < 5 ∧ hb A v = 8 * p + s + 1 := by rcases h.2 v hv with q | q; exact absurd q h0; exact q
  split
  · split
    · exact h
    · rename_i h1
      have := ht p s x hp hs hx
      rw [show hb A v - 1 = 8 * p + s by omega] at h1 ⊢
      exact h.wh hv (Or.inr ⟨p, tn ((8 * p + s) * 4 + x) - 1, hp, by omega, by omega⟩)
  split
  · split
    · exact h
    · exact (h.wh hv (Or.inl rfl)).wh hx (h.2 v hv)
  split
  · exact h.wh hv (Or.inl rfl)
  · exact h
def BeOk (be : Nat → Int32) : Prop := ∀ i, i < 40 → be i = -1 ∨ ∃ B : Nat, B < 2 ^ 20 ∧ be i = nI B
theorem BeOk.upd {be : Nat → Int32} {n A : Nat} (h : BeOk be) (hA : A < 2 ^ 20) : BeOk (upd be n (nI A)) := fun i hi => by
  by_cases q : i = n
  · subst q; exact Or.inr ⟨A, hA, pk_us⟩
  · rw [pk_un q]; exact h i hi
/-- what is kept of the open blocks -/
def JB (be af nu ki : Nat → Int32) : List Nat → Prop
  | [] => True
  | b :: r => (∃ n B : Nat, nu b = nI n ∧ n < 40 ∧ Okh B ∧ be n = nI B ∧ (dK ki b = 5 → ∃ B' : Nat, Okh B' ∧ af n = nI B')) ∧ JB be af nu ki r
theorem JB_be {be af nu ki : Nat → Int32} {n A : Nat} : ∀ {s : List Nat}, (∀ y ∈ s, nu y ≠ nI n) → JB be af nu ki s → JB (upd be n (nI A)) af nu ki s
  | [], _, _ => trivial
  | b :: r, h, ⟨⟨m, B, e1, e2, e3, e4, e5⟩, h2⟩ => ⟨⟨m, B, e1, e2, e3, by rw [pk_un (fun z => h b List.mem_cons_self (by rw [← z]; exact e1))]; exact e4, e5⟩, JB_be (fun y hy => h y (List.mem_cons_of_mem _ hy)) h2⟩
theorem JB_af {be af nu ki : Nat → Int32} {n A : Nat} : ∀ {s : List Nat}, (∀ y ∈ s, nu y ≠ nI n) → JB be af nu ki s → JB be (upd af n (nI A)) nu ki s
  | [], _, _ => trivial
  | b :: r, h, ⟨⟨m, B, e1, e2, e3, e4, e5⟩, h2⟩ => ⟨⟨m, B, e1, e2, e3, e4, fun q => by rw [pk_un (fun z => h b List.mem_cons_self (by rw [← z]; exact e1))]; exact e5 q⟩, JB_af (fun y hy => h y (List.mem_cons_of_mem _ hy)) h2⟩
def Jc (nu ki : Nat → Int32) (t A : Nat) (be af : Nat → Int32) : Prop := Okh A ∧ JB be af nu ki (stk ki t) ∧ BeOk be
theorem num_lt {ki nu kd : Nat → Int32} {c t n : Nat} {s : List Nat} (h : SO ki nu kd c t s) (hn : c ≤ n) (hn2 : n < 40) : ∀ y ∈ s, nu y ≠ nI n := fun y hy z => by
  obtain ⟨-, d, m, -, -, e3, e4, e5, -⟩ := SO.mem h y hy
  have := (nI_eq (by omega) (by omega)).mp (e3.symm.trans z)
  omega
theorem num_tl {ki nu kd : Nat → Int32} {c t n b : Nat} {r : List Nat} (h : SO ki nu kd c t (b :: r)) (hb : nu b = nI n) (hn : n < 40) : ∀ y ∈ r, nu y ≠ nI n := fun y hy z => by
  have := (h.2.2.1 y hy).2 n n z hn hb hn
  omega
section CHK
variable {ki nu fi se ju kd fs sc mi bh : Nat → Int32} {en : Nat} {tn : Nat → Nat} {fb : Nat → Bool}
/-- one token of a checking -/
theorem Jc.step (ht : TN tn) (H : ∀ t, t < en → Tk ki nu fi se ju kd fs sc mi bh t) {t A : Nat} {be af : Nat → Int32} (hte : t < en) (hJ : Jc nu ki t A be af) :
    Saf ki nu fi se t A be af ∧ ((cstA tn fb ki nu fi se t A be af).1 = 0 → Jc nu ki (t + 1) (cstA tn fb ki nu fi se t A be af).2.1 (cstA tn fb ki nu fi se t A be af).2.2.1 (cstA tn fb ki nu fi se t A be af).2.2.2) ∧ BeOk (cstA tn fb ki nu fi se t A be af).2.2.1 := by
  obtain ⟨hA, hB, hO⟩ := hJ
  obtain ⟨d, n, v, x, hk, hd, hnu, hn, hf, hv, hs, hx, hx3, hst, hsi, h5, h6, h8⟩ := H t hte
  have ed : dK ki t = d := dK_of hk hd
  have hso := SO.of H t (by omega)
  have e0 : cstA tn fb ki nu fi se t A be af = cst tn fb d n v x A be af := by simp only [cstA]; rw [hk, hnu, hf, hs, tN_nI (by omega), tN_nI (by omega), tN_nI (by omega), tN_nI (by omega)]
  rw [e0]
  by_cases d5 : d = 5
  · obtain ⟨b, r, s1, s2, s3, s4, s5⟩ := h5 d5
    rw [s1] at hB hso
    obtain ⟨⟨n', B, a1, a2, a3, a4, a5⟩, hB2⟩ := hB
    have en0 : n' = n := (nI_eq (by omega) (by omega)).mp (a1.symm.trans s2)
    subst en0
    have e : cst tn fb d n' v x A be af = (0, B, be, upd af n' (nI A)) := by simp only [cst, if_pos d5]; rw [a4, tN_nI (by have := a3.1; omega)]
    rw [e]
    refine ⟨⟨d, n', v, x, hk, hd, hnu, hn, hf, hv, hs, hx, hx3, hA.1, hA.le, fun _ => ⟨B, a3.1, a4⟩, fun q => by omega, fun q => by omega⟩, fun _ => ⟨a3, ?_, hO⟩, hO⟩
    have es : stk ki (t + 1) = t :: r := by simp only [stk, ed, s1, d5]; rfl
    rw [es]
    exact ⟨⟨n', B, hnu, hn, a3, a4, fun _ => ⟨A, hA, pk_us⟩⟩, JB_af (num_tl hso s2 hn) hB2⟩
  by_cases d6 : d = 6
  · obtain ⟨b, r, s1, s2, s3, s4, s5⟩ := h6 d6
    rw [s1] at hB
    obtain ⟨⟨n', B, a1, a2, a3, a4, a5⟩, hB2⟩ := hB
    have en0 : n' = n := (nI_eq (by omega) (by omega)).mp (a1.symm.trans s2)
    subst en0
    obtain ⟨B', b1, b2⟩ := a5 (dK_of s3 (by omega))
    have e : cst tn fb d n' v x A be af = (if A = B' then 0 else 5, A, be, af) := by simp only [cst, if_neg d5, if_pos d6]; rw [b2, tN_nI (by have := b1.1; omega)]
    rw [e]
    refine ⟨⟨d, n', v, x, hk, hd, hnu, hn, hf, hv, hs, hx, hx3, hA.1, hA.le, fun q => by omega, fun _ => ⟨B', b1.1, b2⟩, fun q => by omega⟩, fun _ => ⟨hA, ?_, hO⟩, hO⟩
    have es : stk ki (t + 1) = r := by simp only [stk, ed, s1, d6]; rfl
    rw [es]; exact hB2
  by_cases d8 : d = 8
  · obtain ⟨b, r, s1, s2, s3, s4, s5, s6⟩ := h8 d8
    rw [s1] at hB
    obtain ⟨⟨n', B, a1, a2, a3, a4, a5⟩, hB2⟩ := hB
    have en0 : n' = n := (nI_eq (by omega) (by omega)).mp (a1.symm.trans s2)
    subst en0
    have e : cst tn fb d n' v x A be af = (if A = B then 0 else 6, A, be, af) := by simp only [cst, if_neg d5, if_neg d6, if_pos d8]; rw [a4, tN_nI (by have := a3.1; omega)]
    rw [e]
    refine ⟨⟨d, n', v, x, hk, hd, hnu, hn, hf, hv, hs, hx, hx3, hA.1, hA.le, fun q => by omega, fun q => by omega, fun _ => ⟨B, a3.1, a4⟩⟩, fun _ => ⟨hA, ?_, hO⟩, hO⟩
    have es : stk ki (t + 1) = r := by simp only [stk, ed, s1, d8]; rfl
    rw [es]; exact hB2
  obtain ⟨c1, c2⟩ := hst (by omega)
  have hne := num_lt hso (Nat.le_of_eq c1.symm) hn
  by_cases d4 : d = 4 ∨ d = 7
  · have e : cst tn fb d n v x A be af = (0, A, upd be n (nI A), af) := by simp only [cst, if_neg d5, if_neg d6, if_neg d8, if_pos d4]
    rw [e]
    refine ⟨⟨d, n, v, x, hk, hd, hnu, hn, hf, hv, hs, hx, hx3, hA.1, hA.le, fun q => by omega, fun q => by omega, fun q => by omega⟩, fun _ => ⟨hA, ?_, hO.upd hA.1⟩, hO.upd hA.1⟩
    have es : stk ki (t + 1) = t :: stk ki t := by simp only [stk, ed]; rw [if_pos d4]
    rw [es]
    exact ⟨⟨n, A, hnu, hn, hA, pk_us, fun q => by omega⟩, JB_be hne hB⟩
  · have e : cst tn fb d n v x A be af = ((sim tn fb d v x A).1, (sim tn fb d v x A).2, upd be n (nI A), af) := by simp only [cst, if_neg d5, if_neg d6, if_neg d8, if_neg d4]
    rw [e]
    refine ⟨⟨d, n, v, x, hk, hd, hnu, hn, hf, hv, hs, hx, hx3, hA.1, hA.le, fun q => by omega, fun q => by omega, fun q => by omega⟩, fun _ => ⟨sim_ok ht hA hv hx hx3, ?_, hO.upd hA.1⟩, hO.upd hA.1⟩
    have es : stk ki (t + 1) = stk ki t := by simp only [stk, ed]; rw [if_neg d4, if_neg d5, if_neg (by omega)]
    rw [es]
    exact JB_be hne hB
theorem crun_ok (ht : TN tn) (H : ∀ t, t < en → Tk ki nu fi se ju kd fs sc mi bh t) (sm : Nat) : ∀ (m t A : Nat) (be af : Nat → Int32), t + m = en → Jc nu ki t A be af → BeOk (crun tn fb ki nu fi se sm m t A be af).2.2.1 := by
  intro m
  induction m with
  | zero => intro t A be af _ h; exact h.2.2
  | succ m ih =>
    intro t A be af hm h
    obtain ⟨-, h2, h3⟩ := Jc.step (fb := fb) ht H (show t < en by omega) h
    simp only [crun]
    by_cases q : (cstA tn fb ki nu fi se t A be af).1 = 0
    · rw [if_pos q]; exact ih _ _ _ _ (by omega) (h2 q)
    · rw [if_neg q]; exact h3
/-- where the block that is open at t ends, as the reference has it -/
theorem blk (H : ∀ t, t < en → Tk ki nu fi se ju kd fs sc mi bh t) (h0 : stk ki en = []) {t b : Nat} {pre r : List Nat} (ht : t ≤ en) (hs : stk ki t = pre ++ b :: r) :
    ∃ i e d : Nat, nu b = nI i ∧ i < 40 ∧ ki b = nI d ∧ d < 9 ∧ ((d = 4 ∧ kd i = nI 4 ∧ mi i = nI e) ∨ (d = 5 ∧ kd i = nI 4 ∧ bh i = nI e) ∨ (d = 7 ∧ kd i = nI 5 ∧ bh i = nI e)) ∧ e ≤ cnt ki en ∧ ((dK ki t < 5 ∨ dK ki t = 7) → t < en → cnt ki t < e) := by
  obtain ⟨e0, q1, q2, q3, q4⟩ := closes h0 (en - t) t (by omega) pre hs
  obtain ⟨d, n, v, x, hk, hd, hnu, hn, hf, hv, hs', hx, hx3, hst, hsi, h5, h6, h8⟩ := H e0 q2
  have ed : dK ki e0 = d := dK_of hk hd
  have hso := SO.of H e0 (by omega)
  rw [q3] at hso
  obtain ⟨-, ⟨d', n', z1, z2, z3, z4, z5, z6⟩, -, -⟩ := hso
  have hc := cnt_le (ki := ki) (show e0 ≤ en by omega)
  have hstr : (dK ki t < 5 ∨ dK ki t = 7) → t < en → cnt ki t < cnt ki e0 := fun h _ => by
    have hne : t ≠ e0 := fun z => by rw [z] at h; omega
    have e2 : cnt ki (t + 1) = cnt ki t + 1 := by simp only [cnt]; rw [if_pos h]
    have := cnt_le (ki := ki) (show t + 1 ≤ e0 by omega)
    omega
  rw [ed] at q4
  rcases q4 with q | q | q
  · obtain ⟨b', r', s1, s2, s3, s4, s5⟩ := h5 q
    rw [q3] at s1; cases s1
    have e1 : n' = n := (nI_eq (by omega) (by omega)).mp (z3.symm.trans s2)
    have e2 : d' = 4 := (nI_eq (by omega) (by omega)).mp (z1.symm.trans s3)
    subst e1; subst e2
    exact ⟨n', cnt ki e0, 4, z3, z5, z1, by omega, Or.inl ⟨rfl, z6, s4⟩, hc, hstr⟩
  · obtain ⟨b', r', s1, s2, s3, s4, s5⟩ := h6 q
    rw [q3] at s1; cases s1
    have e1 : n' = n := (nI_eq (by omega) (by omega)).mp (z3.symm.trans s2)
    have e2 : d' = 5 := (nI_eq (by omega) (by omega)).mp (z1.symm.trans s3)
    subst e1; subst e2
    exact ⟨n', cnt ki e0, 5, z3, z5, z1, by omega, Or.inr (Or.inl ⟨rfl, z6, s4⟩), hc, hstr⟩
  · obtain ⟨b', r', s1, s2, s3, s4, s5, s6⟩ := h8 q
    rw [q3] at s1; cases s1
    have e1 : n' = n := (nI_eq (by omega) (by omega)).mp (z3.symm.trans s2)
    have e2 : d' = 7 := (nI_eq (by omega) (by omega)).mp (z1.symm.trans s3)
    subst e1; subst e2
    exact ⟨n', cnt ki e0, 7, z3, z5, z1, by omega, Or.inr (Or.inr ⟨rfl, z6, s4⟩), hc, hstr⟩
end CHK
/-- the reference's pile against the open blocks -/
def Pil (pi ot bf ar be af nu ki : Nat → Int32) : List Nat → Prop
  | [] => True
  | b :: r => pi r.length = nu b ∧ ot r.length = bI (decide (dK ki b = 5)) ∧ (∀ n B : Nat, nu b = nI n → n < 40 → be n = nI B → B < 2 ^ 20 → ∀ v, v < 4 → bf (4 * r.length + v) = oI (hb B v)) ∧ (∀ n B : Nat, nu b = nI n → n < 40 → dK ki b = 5 → af n = nI B → B < 2 ^ 20 → ∀ v, v < 4 → ar (4 * r.length + v) = oI (hb B v)) ∧ Pil pi ot bf ar be af nu ki r
theorem Pil.keep {pi ot bf ar be af nu ki pi' ot' bf' ar' be' af' : Nat → Int32} : ∀ {s : List Nat}, (∀ i, i < s.length → pi' i = pi i ∧ ot' i = ot i ∧ ∀ v, v < 4 → bf' (4 * i + v) = bf (4 * i + v) ∧ ar' (4 * i + v) = ar (4 * i + v)) → (∀ y ∈ s, ∀ n : Nat, nu y = nI n → n < 40 → be' n = be n ∧ af' n = af n) → Pil pi ot bf ar be af nu ki s → Pil pi' ot' bf' ar' be' af' nu ki s
  | [], _, _, _ => trivial
  | b :: r, h1, h2, ⟨a1, a2, a3, a4, a5⟩ => by
    obtain ⟨q1, q2, q3⟩ := h1 r.length (by simp)
    refine ⟨by rw [q1]; exact a1, by rw [q2]; exact a2, fun n B z1 z2 z3 z4 v hv => ?_, fun n B z1 z2 z3 z4 z5 v hv => ?_, Pil.keep (fun i hi => h1 i (by simp; omega)) (fun y hy => h2 y (List.mem_cons_of_mem _ hy)) a5⟩
    · rw [(q3 v hv).1]; exact a3 n B z1 z2 (by rw [← (h2 b List.mem_cons_self n z1 z2).1]; exact z3) z4 v hv
    · rw [(q3 v hv).2]; exact a4 n B z1 z2 z3 (by rw [← (h2 b List.mem_cons_self n z1 z2).2]; exact z4) z5 v hv
def HeR (he be : Nat → Int32) : Prop := ∀ i, i < 40 → ∀ v, v < 4 → (be i = -1 → he (4 * i + v) = -2) ∧ ∀ B : Nat, B < 2 ^ 20 → be i = nI B → he (4 * i + v) = oI (hb B v)
theorem HeR.upd {he be : Nat → Int32} {n A : Nat} (h : HeR he be) (hA : A < 2 ^ 20) : HeR (rowU he n A) (upd be n (nI A)) := fun i hi v hv => by
  by_cases q : i = n
  · subst q
    rw [pk_us]
    refine ⟨fun z => absurd z (nI_ne_m1 (by omega)), fun B hB z => ?_⟩
    rw [rowU_in hv, (nI_eq (by omega) (by omega)).mp z]
  · rw [pk_un q, rowU_out hv q]; exact h i hi v hv
theorem HeR.init {he be : Nat → Int32} : HeR (fillF he 160 (-2)) (fillF be 40 (-1)) := fun i hi v hv => by
  have e : fillF be 40 (-1) i = -1 := by simp [fillF, hi]
  refine ⟨fun _ => by simp [fillF, show 4 * i + v < 160 by omega], fun B hB z => ?_⟩
  rw [e] at z
  exact absurd z.symm (nI_ne_m1 (by omega))

set_option maxHeartbeats 4000000 in
theorem mchk {D : va_G} {cI cZ cJ : ClassId} {l : Launch} {ad : Nat → Nat} {ki nu fi se ju : Nat → Int32} {en sm : Nat} {le : Nat → Int32} {la : Nat → Int32} {kd : Nat → Int32} {fs : Nat → Int32} {sc : Nat → Int32} {mi : Nat → Int32} {bh : Nat → Int32} {mz : Nat} {oo : Nat → Int32} {ie : Nat → Int32} {mo : Nat} {mf : Int32} {mq : Int32} {ms : Nat} {lf : Nat → Int32} {w0 : va_W} (tn : Nat → Nat) (fb : Nat → Bool) (ht : TN tn) (hle : ∀ p s e : Nat, p < 3 → s < 5 → e < 4 → le (20 * p + 4 * s + e) = nI (tn ((8 * p + s) * 4 + e)) ∧ tn ((8 * p + s) * 4 + e) ≤ 5) (hla : ∀ p s : Nat, p < 3 → s < 5 → la (5 * p + s) = bI (fb (8 * p + s))) (hen : en ≤ 120) (hsm : sm = cnt ki en) (hs40 : sm ≤ 40) (hmz : mz = sm) (H : ∀ t, t < en → Tk ki nu fi se ju kd fs sc mi bh t) (h0 : stk ki en = []) (hl6 : ∀ t, t ≤ en → (stk ki t).length ≤ 6) (R : Nat × Int32 × (Nat → Int32) × (Nat → Int32)) : ∀ (m t A : Nat) (be af he pi ot bf ar : Nat → Int32) (mp : Int32), t + m = en → Jc nu ki t A be af → HeR he be → Pil pi ot bf ar be af nu ki (stk ki t) → crun tn fb ki nu fi se sm m t A be af = R →
    V (xN D (tyL cI cZ cJ) l 2 46 w0 (fun r w' => r = some (.int (nI R.1)) ∧ ∃ (he' no' pi' ot' bf' ar' : Nat → Int32) (md' : Nat), HeR he' R.2.2.1 ∧ (∀ j, 4 ≤ j → no' j = 0) ∧ w' = wM ad cI cZ le la kd fs sc mi bh mz oo ie mo R.2.1 mf mq ms (nI 0) (nI 1) no' lf he' pi' ot' bf' ar' md')) (cX5_check, wsX5_check, yX5_check.cls, 5, (some .int), yX5_check.name) 0 0 (wM ad cI cZ le la kd fs sc mi bh mz oo ie mo mp mf mq ms (nI 0) (nI 1) (nowOf A) lf he pi ot bf ar ((stk ki t).length)) 61 [(0, .ref (ad 0)), (1, .int (nI (cnt ki t))), (2, .int (nI 0)), (3, .int (nI t))] [] := by
  subst hmz
  intro m
  induction m with
  | zero =>
    intro t A be af he pi ot bf ar mp hm hJ hH hP hR
    have et : t = en := by omega
    subst et
    refine mc_done (cnt ki t) t hsm.symm (by rw [h0]; rfl) hs40 (by omega) tn fb A hJ.1 hla ?_
    rw [← hR]
    exact ⟨rfl, he, nowOf A, pi, ot, bf, ar, _, hH, fun j hj => nowOf_4 hj, rfl⟩
  | succ m ih =>
    intro t A be af he pi ot bf ar mp hm hJ hH hP hR
    have hte : t < en := by omega
    obtain ⟨hsaf, hJn, -⟩ := Jc.step (fb := fb) ht H hte hJ
    have hlt9 := cstA_lt tn fb ki nu fi se t A be af
    obtain ⟨d, n, v, x, hk, hd, hnu, hn, hf, hv, hs, hx, hx3, hst, hsi, h5, h6, h8⟩ := H t hte
    have ed : dK ki t = d := dK_of hk hd
    have hso := SO.of H t (by omega)
    have hctl := cnt_le (ki := ki) (show t + 1 ≤ en by omega)
    have e0 : cstA tn fb ki nu fi se t A be af = cst tn fb d n v x A be af := by simp only [cstA]; rw [hk, hnu, hf, hs, tN_nI (by omega), tN_nI (by omega), tN_nI (by omega), tN_nI (by omega)]
    have hA := hJ.1
    simp only [crun] at hR
    rw [e0] at hR hJn hlt9
    have hdepth := hl6 t (by omega)
    by_cases hstm : d < 5 ∨ d = 7
    · obtain ⟨c1, c2⟩ := hst hstm
      have ec : cnt ki (t + 1) = cnt ki t + 1 := by simp only [cnt, ed]; rw [if_pos hstm]
      have hne := num_lt hso (Nat.le_of_eq c1.symm) hn
      -- from the head to the row of held
      have pre : V (xN D (tyL cI cZ cJ) l 2 46 w0 (fun r w' => r = some (.int (nI R.1)) ∧ ∃ (he' no' pi' ot' bf' ar' : Nat → Int32) (md' : Nat), HeR he' R.2.2.1 ∧ (∀ j, 4 ≤ j → no' j = 0) ∧ w' = wM ad cI cZ le la kd fs sc mi bh mz oo ie mo R.2.1 mf mq ms (nI 0) (nI 1) no' lf he' pi' ot' bf' ar' md')) (cX5_check, wsX5_check, yX5_check.cls, 5, (some .int), yX5_check.name) 0 0 (wM ad cI cZ le la kd fs sc mi bh mz oo ie mo mp mf mq ms (nI 0) (nI 1) (nowOf A) lf he pi ot bf ar ((stk ki t).length)) 110 [(0, .ref (ad 0)), (1, .int (nI (cnt ki t))), (2, .int (nI 0)), (3, .int (nI t))] [] → V (xN D (tyL cI cZ cJ) l 2 46 w0 (fun r w' => r = some (.int (nI R.1)) ∧ ∃ (he' no' pi' ot' bf' ar' : Nat → Int32) (md' : Nat), HeR he' R.2.2.1 ∧ (∀ j, 4 ≤ j → no' j = 0) ∧ w' = wM ad cI cZ le la kd fs sc mi bh mz oo ie mo R.2.1 mf mq ms (nI 0) (nI 1) no' lf he' pi' ot' bf' ar' md')) (cX5_check, wsX5_check, yX5_check.cls, 5, (some .int), yX5_check.name) 0 0 (wM ad cI cZ le la kd fs sc mi bh mz oo ie mo mp mf mq ms (nI 0) (nI 1) (nowOf A) lf he pi ot bf ar ((stk ki t).length)) 61 [(0, .ref (ad 0)), (1, .int (nI (cnt ki t))), (2, .int (nI 0)), (3, .int (nI t))] [] := by
        intro h
        cases hsk : stk ki t with
        | nil => 
          rw [hsk] at h
          exact mc_pre0 (cnt ki t) t hs40 (by omega) (by omega) rfl h
        | cons b r =>
          rw [hsk] at h hP hdepth
          obtain ⟨i, e, d', z1, z2, z3, z4, z5, z6, z7⟩ := blk H h0 (pre := []) (show t ≤ en by omega) hsk
          have hs1 := z7 (by rw [ed]; exact hstm) hte
          have edb : dK ki b = d' := dK_of z3 z4
          have hot := hP.2.1
          rw [edb] at hot
          refine mc_pre1 (cnt ki t) t hs40 (by omega) r.length i e rfl (by simp at hdepth; omega) (by rw [hP.1]; exact z1) z2 ?_ (by omega) (by omega) (by omega) h
          rcases z5 with ⟨a1, a2, a3⟩ | ⟨a1, a2, a3⟩ | ⟨a1, a2, a3⟩
          · exact Or.inl ⟨a2, by rw [hot, decide_eq_false (by omega)], a3⟩
          · exact Or.inr (Or.inl ⟨a2, by rw [hot, decide_eq_true a1], a3⟩)
          · exact Or.inr (Or.inr ⟨a2, a3⟩)
      refine pre ?_
      by_cases d4 : d = 4 ∨ d = 7
      · have e : cst tn fb d n v x A be af = (0, A, upd be n (nI A), af) := by simp only [cst, if_neg (show ¬ d = 5 by omega), if_neg (show ¬ d = 6 by omega), if_neg (show ¬ d = 8 by omega), if_pos d4]
        rw [e] at hR hJn
        have es : stk ki (t + 1) = t :: stk ki t := by simp only [stk, ed]; rw [if_pos d4]
        have h6' := hl6 (t + 1) (by omega)
        rw [es] at h6'
        simp at h6'
        refine mc_open (cnt ki t) t (if d = 7 then 5 else d) A (by omega) (by omega) hA.1 (by rw [← c1]; exact c2) (by split <;> omega) (by split <;> omega) ?_
        rw [← ec]
        have ih1 := ih (t + 1) A (upd be n (nI A)) af (rowU he n A) (upd pi (stk ki t).length (nI n)) (upd ot (stk ki t).length (bI false)) (rowU bf (stk ki t).length A) ar (nI n) (by omega) (hJn rfl) (hH.upd hA.1) ?_ hR
        · rw [es, List.length_cons, c1] at ih1
          exact ih1
        · rw [es]
          refine ⟨by rw [hnu]; exact pk_us, by rw [ed, decide_eq_false (by omega)]; exact pk_us, fun n' B z1 z2 z3 z4 v hv => ?_, fun n' B z1 z2 z3 => by omega, Pil.keep (fun i hi => ⟨upd_lt hi, upd_lt hi, fun v hv => ⟨rowU_out hv (by omega), rfl⟩⟩) (fun y hy n' z1 z2 => ⟨pk_un (fun q => hne y hy (by rw [← q]; exact z1)), rfl⟩) hP⟩
          have en0 : n' = n := (nI_eq (by omega) (by omega)).mp (z1.symm.trans hnu)
          subst en0
          rw [pk_us] at z3
          rw [rowU_in hv, (nI_eq (by have := hA.1; omega) (by omega)).mp z3]
      · have hd4 : d < 4 := by omega
        have e : cst tn fb d n v x A be af = ((sim tn fb d v x A).1, (sim tn fb d v x A).2, upd be n (nI A), af) := by simp only [cst, if_neg (show ¬ d = 5 by omega), if_neg (show ¬ d = 6 by omega), if_neg (show ¬ d = 8 by omega), if_neg d4]
        rw [e] at hR hJn hlt9
        have es : stk ki (t + 1) = stk ki t := by simp only [stk, ed]; rw [if_neg d4, if_neg (by omega), if_neg (by omega)]
        refine mc_simple tn fb (cnt ki t) t d v x A (by omega) hv hx hA (by rw [← c1]; exact (hsi hd4).1) (by rw [← c1]; exact (hsi hd4).2) (by rw [← c1, c2, if_neg (by omega)]) hd4 hx3 hle hla ?_
        rw [← ec]
        by_cases q : (sim tn fb d v x A).1 = 0
        · rw [if_pos q] at hR
          rw [q]
          have ih1 := ih (t + 1) _ (upd be n (nI A)) af (rowU he n A) pi ot bf ar (nI n) (by omega) (hJn q) (hH.upd hA.1) ?_ hR
          · rw [es, c1] at ih1
            exact ih1
          · rw [es]
            exact Pil.keep (fun i hi => ⟨rfl, rfl, fun v hv => ⟨rfl, rfl⟩⟩) (fun y hy n' z1 z2 => ⟨pk_un (fun q => hne y hy (by rw [← q]; exact z1)), rfl⟩) hP
        · rw [if_neg q] at hR
          refine mc_fault (cnt ki (t + 1)) _ (t + 1) (by omega) hlt9 (by omega) ?_
          rw [← hR]
          refine ⟨rfl, rowU he n A, nowOf (sim tn fb d v x A).2, pi, ot, bf, ar, (stk ki t).length, hH.upd hA.1, fun j hj => nowOf_4 hj, ?_⟩
          rw [hnu, c1]
    · -- a block's end
      have ec : cnt ki (t + 1) = cnt ki t := by simp only [cnt, ed]; rw [if_neg hstm]; rfl
      obtain ⟨b, r, hsk, hnb⟩ : ∃ b r, stk ki t = b :: r ∧ nu b = nI n := by
        rcases (show d = 5 ∨ d = 6 ∨ d = 8 by omega) with q | q | q
        · obtain ⟨b, r, a1, a2, -⟩ := h5 q; exact ⟨b, r, a1, a2⟩
        · obtain ⟨b, r, a1, a2, -⟩ := h6 q; exact ⟨b, r, a1, a2⟩
        · obtain ⟨b, r, a1, a2, -⟩ := h8 q; exact ⟨b, r, a1, a2⟩
      have hJ2 := hJ.2.1
      have hO := hJ.2.2
      rw [hsk] at hP hdepth hso hJ2
      simp at hdepth
      obtain ⟨⟨n', B, a1, a2, a3, a4, a5⟩, hB2⟩ := hJ2
      have en0 : n' = n := (nI_eq (by omega) (by omega)).mp (a1.symm.trans hnb)
      subst en0
      obtain ⟨p1, p2, p3, p4, p5⟩ := hP
      obtain ⟨-, ⟨d', n1, z1, z2, z3, z4, z5, z6⟩, -, -⟩ := id hso
      have en1 : n1 = n' := (nI_eq (by omega) (by omega)).mp (z3.symm.trans hnb)
      subst en1
      have edb : dK ki b = d' := dK_of z1 (by omega)
      rw [edb] at p2 p4 a5
      -- from the head to 'ended'
      have pre : (d' = 4 ∧ mi n1 = nI (cnt ki t)) ∨ (d' = 5 ∧ bh n1 = nI (cnt ki t)) ∨ (d' = 7 ∧ bh n1 = nI (cnt ki t)) → V (xN D (tyL cI cZ cJ) l 2 46 w0 (fun r w' => r = some (.int (nI R.1)) ∧ ∃ (he' no' pi' ot' bf' ar' : Nat → Int32) (md' : Nat), HeR he' R.2.2.1 ∧ (∀ j, 4 ≤ j → no' j = 0) ∧ w' = wM ad cI cZ le la kd fs sc mi bh mz oo ie mo R.2.1 mf mq ms (nI 0) (nI 1) no' lf he' pi' ot' bf' ar' md')) (cX5_check, wsX5_check, yX5_check.cls, 5, (some .int), yX5_check.name) 0 0 (wM ad cI cZ le la kd fs sc mi bh mz oo ie mo mp mf mq ms (nI 0) (nI 1) (nowOf A) lf he pi ot bf ar ((stk ki t).length)) 102 [(0, .ref (ad 0)), (1, .int (nI (cnt ki t))), (2, .int (nI 0)), (3, .int (nI t))] [] → V (xN D (tyL cI cZ cJ) l 2 46 w0 (fun r w' => r = some (.int (nI R.1)) ∧ ∃ (he' no' pi' ot' bf' ar' : Nat → Int32) (md' : Nat), HeR he' R.2.2.1 ∧ (∀ j, 4 ≤ j → no' j = 0) ∧ w' = wM ad cI cZ le la kd fs sc mi bh mz oo ie mo R.2.1 mf mq ms (nI 0) (nI 1) no' lf he' pi' ot' bf' ar' md')) (cX5_check, wsX5_check, yX5_check.cls, 5, (some .int), yX5_check.name) 0 0 (wM ad cI cZ le la kd fs sc mi bh mz oo ie mo mp mf mq ms (nI 0) (nI 1) (nowOf A) lf he pi ot bf ar ((stk ki t).length)) 61 [(0, .ref (ad 0)), (1, .int (nI (cnt ki t))), (2, .int (nI 0)), (3, .int (nI t))] [] := by
        intro hq h
        have hbe : (kd n1 = nI 4 ∧ ot r.length = bI false ∧ mi n1 = nI (cnt ki t)) ∨ (kd n1 = nI 4 ∧ ot r.length = bI true ∧ bh n1 = nI (cnt ki t)) ∨ (kd n1 = nI 5 ∧ bh n1 = nI (cnt ki t)) := by
          rcases hq with ⟨q, q2⟩ | ⟨q, q2⟩ | ⟨q, q2⟩
          · exact Or.inl ⟨by rw [z6, q]; rfl, by rw [p2, q]; rfl, q2⟩
          · exact Or.inr (Or.inl ⟨by rw [z6, q]; rfl, by rw [p2, q]; rfl, q2⟩)
          · exact Or.inr (Or.inr ⟨by rw [z6, q]; rfl, q2⟩)
        rw [hsk] at h ⊢
        rcases Nat.lt_or_ge (cnt ki t) mz with q | q
        · exact mc_end1 (cnt ki t) t hs40 (by omega) r.length n1 (cnt ki t) rfl (by omega) (by rw [p1]; exact hnb) hn hbe q rfl h
        · exact mc_end2 (cnt ki t) t hs40 (by omega) r.length n1 (cnt ki t) rfl (by omega) (by rw [p1]; exact hnb) hn hbe (by omega) rfl h
      by_cases d5 : d = 5
      · obtain ⟨b', r', s1, s2, s3, s4, s5⟩ := h5 d5
        rw [hsk] at s1; cases s1
        have e2 : d' = 4 := (nI_eq (by omega) (by omega)).mp (z1.symm.trans s3)
        subst e2
        refine pre (Or.inl ⟨rfl, s4⟩) ?_
        have e : cst tn fb d n1 v x A be af = (0, B, be, upd af n1 (nI A)) := by simp only [cst, if_pos d5]; rw [a4, tN_nI (by have := a3.1; omega)]
        rw [e] at hR hJn
        have es : stk ki (t + 1) = t :: r := by simp only [stk, ed, hsk, d5]; rfl
        rw [hsk]
        refine mc_endT (cnt ki t) t r.length n1 A B rfl (by omega) (by rw [p1]; exact hnb) hn hA.1 a3.1 (by rw [z6]; rfl) (by rw [p2]; rfl) (p3 n1 B hnb hn a4 a3.1) ?_
        have ih1 := ih (t + 1) B be (upd af n1 (nI A)) he pi (upd ot r.length (bI true)) bf (rowU ar r.length A) mp (by omega) (hJn rfl) hH ?_ hR
        · rw [es, ec] at ih1
          exact ih1
        · rw [es]
          refine ⟨by rw [p1, hnb, hnu], by rw [ed, decide_eq_true d5]; exact pk_us, fun n2 B2 q1 q2 q3 q4 => p3 n2 B2 (by rw [hnb, ← hnu]; exact q1) q2 q3 q4, fun n2 B2 q1 q2 q3 q4 q5 v hv => ?_, Pil.keep (fun i hi => ⟨rfl, pk_un (by omega), fun v hv => ⟨rfl, rowU_out hv (by omega)⟩⟩) (fun y hy n2 q1 q2 => ⟨rfl, pk_un (fun q => num_tl hso hnb hn y hy (by rw [← q]; exact q1))⟩) p5⟩
          have en2 : n2 = n1 := (nI_eq (by omega) (by omega)).mp (q1.symm.trans hnu)
          subst en2
          rw [pk_us] at q4
          rw [rowU_in hv, (nI_eq (by have := hA.1; omega) (by omega)).mp q4]
      by_cases d6 : d = 6
      · obtain ⟨b', r', s1, s2, s3, s4, s5⟩ := h6 d6
        rw [hsk] at s1; cases s1
        have e2 : d' = 5 := (nI_eq (by omega) (by omega)).mp (z1.symm.trans s3)
        subst e2
        refine pre (Or.inr (Or.inl ⟨rfl, s4⟩)) ?_
        obtain ⟨B', b1, b2⟩ := a5 rfl
        have e : cst tn fb d n1 v x A be af = (if A = B' then 0 else 5, A, be, af) := by simp only [cst, if_neg d5, if_pos d6]; rw [b2, tN_nI (by have := b1.1; omega)]
        rw [e] at hR hJn hlt9
        have es : stk ki (t + 1) = r := by simp only [stk, ed, hsk, d6]; rfl
        rw [hsk]
        refine mc_endE (cnt ki t) t r.length n1 A B' rfl (by omega) (by rw [p1]; exact hnb) hn hA.1 b1.1 (by rw [z6]; rfl) (by rw [p2]; rfl) (p4 n1 B' hnb hn rfl b2 b1.1) ?_
        by_cases q : A = B'
        · rw [if_pos q] at hR hJn ⊢
          have ih1 := ih (t + 1) A be af he pi ot bf ar (nI n1) (by omega) (hJn rfl) hH (by rw [es]; exact p5) hR
          rw [es, ec] at ih1
          exact ih1
        · rw [if_neg q] at hR hlt9 ⊢
          refine mc_fault (cnt ki t) 5 (t + 1) (by omega) (by omega) (by omega) ?_
          rw [← hR]
          refine ⟨rfl, he, nowOf A, pi, ot, bf, ar, r.length, hH, fun j hj => nowOf_4 hj, ?_⟩
          rw [hnu]; rfl
      · have d8 : d = 8 := by omega
        obtain ⟨b', r', s1, s2, s3, s4, s5, s6⟩ := h8 d8
        rw [hsk] at s1; cases s1
        have e2 : d' = 7 := (nI_eq (by omega) (by omega)).mp (z1.symm.trans s3)
        subst e2
        refine pre (Or.inr (Or.inr ⟨rfl, s4⟩)) ?_
        have e : cst tn fb d n1 v x A be af = (if A = B then 0 else 6, A, be, af) := by simp only [cst, if_neg d5, if_neg d6, if_pos d8]; rw [a4, tN_nI (by have := a3.1; omega)]
        rw [e] at hR hJn hlt9
        have es : stk ki (t + 1) = r := by simp only [stk, ed, hsk, d8]; rfl
        rw [hsk]
        refine mc_endW (cnt ki t) t r.length n1 A B rfl (by omega) (by rw [p1]; exact hnb) hn hA.1 a3.1 (by rw [z6]; rfl) (p3 n1 B hnb hn a4 a3.1) ?_
        by_cases q : A = B
        · rw [if_pos q] at hR hJn ⊢
          have ih1 := ih (t + 1) A be af he pi ot bf ar (nI n1) (by omega) (hJn rfl) hH (by rw [es]; exact p5) hR
          rw [es, ec] at ih1
          exact ih1
        · rw [if_neg q] at hR hlt9 ⊢
          refine mc_fault (cnt ki t) 6 (t + 1) (by omega) (by omega) (by omega) ?_
          rw [← hR]
          refine ⟨rfl, he, nowOf A, pi, ot, bf, ar, r.length, hH, fun j hj => nowOf_4 hj, ?_⟩
          rw [hnu]; rfl

