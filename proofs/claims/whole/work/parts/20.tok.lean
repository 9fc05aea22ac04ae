/-! The program as a row of tokens: how many statements stand ahead of one, which blocks are open there. -/
def dK (ki : Nat → Int32) (t : Nat) : Nat := tN (ki t)
theorem dK_of {ki : Nat → Int32} {t d : Nat} (h : ki t = nI d) (hd : d < 9) : dK ki t = d := by rw [dK, h, tN_nI (by omega)]
def cnt (ki : Nat → Int32) : Nat → Nat
  | 0 => 0
  | t + 1 => cnt ki t + (if dK ki t < 5 ∨ dK ki t = 7 then 1 else 0)
def stk (ki : Nat → Int32) : Nat → List Nat
  | 0 => []
  | t + 1 => if dK ki t = 4 ∨ dK ki t = 7 then t :: stk ki t else if dK ki t = 5 then t :: (stk ki t).tail else if dK ki t = 6 ∨ dK ki t = 8 then (stk ki t).tail else stk ki t
theorem cnt_congr {ki ki' : Nat → Int32} : ∀ {t : Nat}, (∀ i, i < t → ki' i = ki i) → cnt ki' t = cnt ki t
  | 0, _ => rfl
  | t + 1, h => by
    have h1 := cnt_congr (t := t) (fun i hi => h i (Nat.lt_succ_of_lt hi))
    have e : dK ki' t = dK ki t := by rw [dK, dK, h t (Nat.lt_succ_self t)]
    show cnt ki' t + (if dK ki' t < 5 ∨ dK ki' t = 7 then 1 else 0) = cnt ki t + (if dK ki t < 5 ∨ dK ki t = 7 then 1 else 0)
    rw [h1, e]
theorem stk_congr {ki ki' : Nat → Int32} : ∀ {t : Nat}, (∀ i, i < t → ki' i = ki i) → stk ki' t = stk ki t
  | 0, _ => rfl
  | t + 1, h => by
    have h1 := stk_congr (t := t) (fun i hi => h i (Nat.lt_succ_of_lt hi))
    have e : dK ki' t = dK ki t := by rw [dK, dK, h t (Nat.lt_succ_self t)]
    show (if dK ki' t = 4 ∨ dK ki' t = 7 then t :: stk ki' t else if dK ki' t = 5 then t :: (stk ki' t).tail else if dK ki' t = 6 ∨ dK ki' t = 8 then (stk ki' t).tail else stk ki' t) = (if dK ki t = 4 ∨ dK ki t = 7 then t :: stk ki t else if dK ki t = 5 then t :: (stk ki t).tail else if dK ki t = 6 ∨ dK ki t = 8 then (stk ki t).tail else stk ki t)
    rw [h1, e]
theorem upd_lt {f : Nat → Int32} {k i : Nat} {x : Int32} (h : i < k) : upd f k x i = f i := pk_un (by omega)
theorem cnt_le {ki : Nat → Int32} {t u : Nat} (h : t ≤ u) : cnt ki t ≤ cnt ki u := by
  induction u with
  | zero => obtain rfl : t = 0 := by omega
            exact Nat.le_refl _
  | succ u ih =>
    rcases Nat.lt_or_ge u t with q | q
    · obtain rfl : t = u + 1 := by omega
      exact Nat.le_refl _
    · exact Nat.le_trans (ih q) (by simp only [cnt]; omega)
/-- a token is as it must be, in the class and in the reference -/
def Tk (ki nu fi se ju kd fs sc mi bh : Nat → Int32) (t : Nat) : Prop :=
  ∃ d n v x : Nat, ki t = nI d ∧ d < 9 ∧ nu t = nI n ∧ n < 40 ∧ fi t = nI v ∧ v < 4 ∧ se t = nI x ∧ x < 4 ∧ (d = 0 → x < 3)
   ∧ (d < 5 ∨ d = 7 → n = cnt ki t ∧ kd n = nI (if d = 7 then 5 else d))
   ∧ (d < 4 → fs n = nI v ∧ sc n = nI x)
   ∧ (d = 5 → ∃ b r, stk ki t = b :: r ∧ nu b = nI n ∧ ki b = nI 4 ∧ mi n = nI (cnt ki t) ∧ ju b = nI (t + 1))
   ∧ (d = 6 → ∃ b r, stk ki t = b :: r ∧ nu b = nI n ∧ ki b = nI 5 ∧ bh n = nI (cnt ki t) ∧ ju b = nI (t + 1))
   ∧ (d = 8 → ∃ b r, stk ki t = b :: r ∧ nu b = nI n ∧ ki b = nI 7 ∧ bh n = nI (cnt ki t) ∧ ju b = nI (t + 1) ∧ ju t = nI b)
/-- what is so of each open block at token t, c statements being ahead -/
def SO (ki nu kd : Nat → Int32) (c t : Nat) : List Nat → Prop
  | [] => True
  | b :: r => b < t ∧ (∃ d n : Nat, ki b = nI d ∧ (d = 4 ∨ d = 5 ∨ d = 7) ∧ nu b = nI n ∧ n < c ∧ n < 40 ∧ kd n = nI (if d = 7 then 5 else 4)) ∧ (∀ y ∈ r, y < b ∧ ∀ m n : Nat, nu y = nI m → m < 40 → nu b = nI n → n < 40 → m < n) ∧ SO ki nu kd c t r
theorem SO.mono {ki nu kd : Nat → Int32} {c c' t t' : Nat} (hc : c ≤ c') (ht : t ≤ t') : ∀ {s : List Nat}, SO ki nu kd c t s → SO ki nu kd c' t' s
  | [], _ => trivial
  | b :: r, ⟨h1, ⟨d, n, e1, e2, e3, e4, e5, e6⟩, h3, h4⟩ => ⟨by omega, ⟨d, n, e1, e2, e3, by omega, e5, e6⟩, h3, SO.mono hc ht h4⟩
theorem SO.mem {ki nu kd : Nat → Int32} {c t : Nat} : ∀ {s : List Nat}, SO ki nu kd c t s → ∀ y ∈ s, y < t ∧ ∃ d n : Nat, ki y = nI d ∧ (d = 4 ∨ d = 5 ∨ d = 7) ∧ nu y = nI n ∧ n < c ∧ n < 40 ∧ kd n = nI (if d = 7 then 5 else 4)
  | b :: r, h, y, hy => by
    rcases List.mem_cons.mp hy with rfl | q
    · exact ⟨h.1, h.2.1⟩
    · exact SO.mem h.2.2.2 y q
theorem SO.of {ki nu fi se ju kd fs sc mi bh : Nat → Int32} {en : Nat} (H : ∀ t, t < en → Tk ki nu fi se ju kd fs sc mi bh t) : ∀ t, t ≤ en → SO ki nu kd (cnt ki t) t (stk ki t) := by
  intro t
  induction t with
  | zero => intro _; exact trivial
  | succ t ih =>
    intro ht
    have h0 := ih (by omega)
    obtain ⟨d, n, v, x, hk, hd, hnu, hn, -, -, -, -, -, hst, -, h5, h6, h8⟩ := H t (by omega)
    have ed : dK ki t = d := dK_of hk hd
    have hm : SO ki nu kd (cnt ki (t + 1)) (t + 1) (stk ki t) := SO.mono (cnt_le (by omega)) (by omega) h0
    simp only [stk, ed]
    by_cases c1 : d = 4 ∨ d = 7
    · rw [if_pos c1]
      obtain ⟨e1, e2⟩ := hst (by omega)
      have ec : cnt ki (t + 1) = cnt ki t + 1 := by simp only [cnt, ed]; rw [if_pos (by omega)]
      refine ⟨by omega, ⟨d, n, hk, by omega, hnu, by omega, hn, ?_⟩, fun y hy => ?_, hm⟩
      · rw [e2]; rcases c1 with q | q <;> subst q <;> rfl
      · obtain ⟨q1, d', n', q2, q3, q4, q5, q6, -⟩ := SO.mem h0 y hy
        refine ⟨q1, fun m k hm hm2 hk2 hk3 => ?_⟩
        rw [q4] at hm; rw [hnu] at hk2
        have := (nI_eq (by omega) (by omega)).mp hm
        have := (nI_eq (by omega) (by omega)).mp hk2
        omega
    · rw [if_neg c1]
      by_cases c2 : d = 5
      · rw [if_pos c2]
        obtain ⟨b, r, hs, hb, hkb, -, -⟩ := h5 c2
        rw [hs] at hm h0 ⊢
        obtain ⟨q1, ⟨d', n', q2, q3, q4, q5, q6, q7⟩, q8, q9⟩ := hm
        have en : n' = n := (nI_eq (by omega) (by omega)).mp (q4.symm.trans hb)
        have ed' : d' = 4 := (nI_eq (by omega) (by omega)).mp (q2.symm.trans hkb)
        subst ed'
        subst en
        refine ⟨by omega, ⟨d, n', hk, by omega, hnu, q5, hn, by rw [q7, c2]; rfl⟩, fun y hy => ⟨by have := (q8 y hy).1; have := h0.1; omega, fun m k hm hm2 hk2 hk3 => ?_⟩, q9⟩
        exact (q8 y hy).2 m k hm hm2 (by rw [q4, ← hnu]; exact hk2) hk3
      · rw [if_neg c2]
        by_cases c3 : d = 6 ∨ d = 8
        · rw [if_pos c3]
          cases hs : stk ki t with
          | nil => exact trivial
          | cons b r => rw [hs] at hm; exact hm.2.2.2
        · rw [if_neg c3]; exact hm
theorem stk_sub {ki : Nat → Int32} {t y : Nat} (h : y ∈ stk ki (t + 1)) : (y = t ∧ (dK ki t = 4 ∨ dK ki t = 7 ∨ dK ki t = 5)) ∨ y ∈ stk ki t := by
  simp only [stk] at h
  by_cases c1 : dK ki t = 4 ∨ dK ki t = 7
  · rw [if_pos c1] at h
    rcases List.mem_cons.mp h with q | q
    · exact Or.inl ⟨q, by omega⟩
    · exact Or.inr q
  · rw [if_neg c1] at h
    by_cases c2 : dK ki t = 5
    · rw [if_pos c2] at h
      rcases List.mem_cons.mp h with q | q
      · exact Or.inl ⟨q, by omega⟩
      · exact Or.inr (List.mem_of_mem_tail q)
    · rw [if_neg c2] at h
      by_cases c3 : dK ki t = 6 ∨ dK ki t = 8
      · rw [if_pos c3] at h; exact Or.inr (List.mem_of_mem_tail h)
      · rw [if_neg c3] at h; exact Or.inr h
/-- what has been closed at t is open nowhere behind it -/
theorem closed {ki nu fi se ju kd fs sc mi bh : Nat → Int32} {en : Nat} (H : ∀ t, t < en → Tk ki nu fi se ju kd fs sc mi bh t) {t b n : Nat} {r : List Nat} (ht : t < en) (hs : stk ki t = b :: r) (hd : dK ki t = 5 ∨ dK ki t = 6 ∨ dK ki t = 8) (hnb : nu b = nI n) (hn : n < 40) : ∀ u, t < u → u ≤ en → b ∉ stk ki u ∧ (∀ y ∈ stk ki u, (dK ki t ≠ 5 ∨ ki y = nI 4) → nu y ≠ nI n) := by
  have hso := SO.of H t (by omega)
  rw [hs] at hso
  obtain ⟨hbt, ⟨d0, n0, q2, q3, q4, q5, q6, -⟩, q8, q9⟩ := hso
  have en0 : n0 = n := (nI_eq (by omega) (by omega)).mp (q4.symm.trans hnb)
  subst en0
  intro u
  induction u with
  | zero => intro h; omega
  | succ u ih =>
    intro h1 h2
    by_cases hu : u = t
    · subst hu
      have tl : ∀ y ∈ r, y ≠ b ∧ nu y ≠ nI n0 := fun y hy => by
        have h3 := q8 y hy
        refine ⟨by omega, fun z => ?_⟩
        have := h3.2 n0 n0 z hn hnb hn
        omega
      have e : stk ki (u + 1) = if dK ki u = 5 then u :: r else r := by
        simp only [stk, hs]
        rcases hd with q | q | q <;> simp [q]
      rw [e]
      by_cases c5 : dK ki u = 5
      · rw [if_pos c5]
        obtain ⟨d, n, v, x, hk, hd9, hnu, -⟩ := H u ht
        have ed : d = 5 := by rw [← dK_of hk hd9]; exact c5
        refine ⟨fun z => ?_, fun y hy hy2 => ?_⟩
        · rcases List.mem_cons.mp z with q | q
          · omega
          · exact (tl b q).1 rfl
        · rcases List.mem_cons.mp hy with q | q
          · subst q
            rcases hy2 with z | z
            · exact absurd c5 z
            · rw [hk] at z
              have := (nI_eq (by omega) (by omega)).mp z
              omega
          · exact (tl y q).2
      · rw [if_neg c5]
        exact ⟨fun z => (tl b z).1 rfl, fun y hy _ => (tl y hy).2⟩
    · obtain ⟨i1, i2⟩ := ih (by omega) (by omega)
      obtain ⟨d, n, v, x, hk, hd9, hnu, hn9, -, -, -, -, -, hst, -, h5, -, -⟩ := H u (by omega)
      have ed : dK ki u = d := dK_of hk hd9
      refine ⟨fun z => ?_, fun y hy hy2 => ?_⟩
      · rcases stk_sub z with ⟨q, -⟩ | q
        · omega
        · exact i1 q
      · rcases stk_sub hy with ⟨q, q'⟩ | q
        · subst q
          rw [ed] at q'
          rcases q' with z | z | z
          · obtain ⟨e1, -⟩ := hst (by omega)
            intro w
            rw [hnu] at w
            have := (nI_eq (by omega) (by omega)).mp w
            have := cnt_le (ki := ki) (show t ≤ y by omega)
            omega
          · obtain ⟨e1, -⟩ := hst (by omega)
            intro w
            rw [hnu] at w
            have := (nI_eq (by omega) (by omega)).mp w
            have := cnt_le (ki := ki) (show t ≤ y by omega)
            omega
          · obtain ⟨b', r', hs', hb', hkb', -⟩ := h5 z
            intro w
            have hm : b' ∈ stk ki y := by rw [hs']; exact List.mem_cons_self
            exact i2 b' hm (Or.inr hkb') (by rw [hb', ← hnu]; exact w)
        · exact i2 y q hy2
/-- what is open at t, nothing being open at the end, is closed at some e -/
theorem closes {ki : Nat → Int32} {en : Nat} (h0 : stk ki en = []) {x : Nat} {r : List Nat} : ∀ (m t : Nat), t + m = en → ∀ pre : List Nat, stk ki t = pre ++ x :: r → ∃ e, t ≤ e ∧ e < en ∧ stk ki e = x :: r ∧ (dK ki e = 5 ∨ dK ki e = 6 ∨ dK ki e = 8) := by
  intro m
  induction m with
  | zero =>
    intro t ht pre hp
    rw [show t = en by omega, h0] at hp
    simp at hp
  | succ m ih =>
    intro t ht pre hp
    by_cases c1 : dK ki t = 4 ∨ dK ki t = 7
    · obtain ⟨e, e1, e2, e3, e4⟩ := ih (t + 1) (by omega) (t :: pre) (by simp only [stk]; rw [if_pos c1, hp]; rfl)
      exact ⟨e, by omega, e2, e3, e4⟩
    by_cases c2 : dK ki t = 5
    · cases pre with
      | nil => exact ⟨t, Nat.le_refl _, by omega, by simpa using hp, Or.inl c2⟩
      | cons p0 pre =>
        obtain ⟨e, e1, e2, e3, e4⟩ := ih (t + 1) (by omega) (t :: pre) (by simp only [stk]; rw [if_neg c1, if_pos c2, hp]; rfl)
        exact ⟨e, by omega, e2, e3, e4⟩
    by_cases c3 : dK ki t = 6 ∨ dK ki t = 8
    · cases pre with
      | nil => exact ⟨t, Nat.le_refl _, by omega, by simpa using hp, Or.inr c3⟩
      | cons p0 pre =>
        obtain ⟨e, e1, e2, e3, e4⟩ := ih (t + 1) (by omega) pre (by simp only [stk]; rw [if_neg c1, if_neg c2, if_pos c3, hp]; rfl)
        exact ⟨e, by omega, e2, e3, e4⟩
    · obtain ⟨e, e1, e2, e3, e4⟩ := ih (t + 1) (by omega) pre (by simp only [stk]; rw [if_neg c1, if_neg c2, if_neg c3, hp])
      exact ⟨e, by omega, e2, e3, e4⟩
/-- a token goes on being as it must be, where only what is open or new is changed -/
theorem Tk.keep {ki nu fi se ju kd fs sc mi bh ki' nu' fi' se' ju' kd' fs' sc' mi' bh' : Nat → Int32} {en : Nat} (H : ∀ t, t < en → Tk ki nu fi se ju kd fs sc mi bh t)
    (hki : ∀ i, i < en → ki' i = ki i) (hnu : ∀ i, i < en → nu' i = nu i) (hfi : ∀ i, i < en → fi' i = fi i) (hse : ∀ i, i < en → se' i = se i)
    (hkd : ∀ n, n < cnt ki en → kd' n = kd n) (hfs : ∀ n, n < cnt ki en → fs' n = fs n) (hsc : ∀ n, n < cnt ki en → sc' n = sc n)
    (hju : ∀ b, b < en → b ∉ stk ki en → ju' b = ju b) (hmi : ∀ n, n < 40 → (∀ y ∈ stk ki en, ki y = nI 4 → nu y ≠ nI n) → mi' n = mi n) (hbh : ∀ n, n < 40 → (∀ y ∈ stk ki en, nu y ≠ nI n) → bh' n = bh n) :
    ∀ t, t < en → Tk ki' nu' fi' se' ju' kd' fs' sc' mi' bh' t := by
  intro t ht
  obtain ⟨d, n, v, x, hk, hd, hn1, hn, hf, hv, hs, hx, hx3, hst, hsi, h5, h6, h8⟩ := H t ht
  have ed : dK ki t = d := dK_of hk hd
  have ec : cnt ki' t = cnt ki t := cnt_congr (fun i hi => hki i (by omega))
  have es : stk ki' t = stk ki t := stk_congr (fun i hi => hki i (by omega))
  have hso := SO.of H t (by omega)
  have hlt : d < 5 ∨ d = 7 → n < cnt ki en := fun q => by
    have e1 := (hst q).1
    have e2 : cnt ki (t + 1) = cnt ki t + 1 := by simp only [cnt, ed]; rw [if_pos q]
    have := cnt_le (ki := ki) (show t + 1 ≤ en by omega)
    omega
  refine ⟨d, n, v, x, by rw [hki t ht]; exact hk, hd, by rw [hnu t ht]; exact hn1, hn, by rw [hfi t ht]; exact hf, hv, by rw [hse t ht]; exact hs, hx, hx3, fun q => ?_, fun q => ?_, fun q => ?_, fun q => ?_, fun q => ?_⟩
  · rw [ec, hkd n (hlt q)]; exact hst q
  · rw [hfs n (hlt (by omega)), hsc n (hlt (by omega))]; exact hsi q
  · obtain ⟨b, r, e1, e2, e3, e4, e5⟩ := h5 q
    have hb := SO.mem hso b (by rw [e1]; exact List.mem_cons_self)
    obtain ⟨k1, k2⟩ := closed H ht e1 (by omega) e2 hn en ht (Nat.le_refl _)
    exact ⟨b, r, by rw [es]; exact e1, by rw [hnu b (by omega)]; exact e2, by rw [hki b (by omega)]; exact e3, by rw [hmi n hn (fun y hy z => k2 y hy (Or.inr z)), ec]; exact e4, by rw [hju b (by omega) k1]; exact e5⟩
  · obtain ⟨b, r, e1, e2, e3, e4, e5⟩ := h6 q
    have hb := SO.mem hso b (by rw [e1]; exact List.mem_cons_self)
    obtain ⟨k1, k2⟩ := closed H ht e1 (by omega) e2 hn en ht (Nat.le_refl _)
    exact ⟨b, r, by rw [es]; exact e1, by rw [hnu b (by omega)]; exact e2, by rw [hki b (by omega)]; exact e3, by rw [hbh n hn (fun y hy => k2 y hy (Or.inl (by omega))), ec]; exact e4, by rw [hju b (by omega) k1]; exact e5⟩
  · obtain ⟨b, r, e1, e2, e3, e4, e5, e6⟩ := h8 q
    have hb := SO.mem hso b (by rw [e1]; exact List.mem_cons_self)
    obtain ⟨k1, k2⟩ := closed H ht e1 (by omega) e2 hn en ht (Nat.le_refl _)
    have ht2 : t ∉ stk ki en := fun z => by
      obtain ⟨-, d', n', z1, z2, -⟩ := SO.mem (SO.of H en (Nat.le_refl _)) t z
      have := (nI_eq (by omega) (by omega)).mp (z1.symm.trans hk)
      omega
    exact ⟨b, r, by rw [es]; exact e1, by rw [hnu b (by omega)]; exact e2, by rw [hki b (by omega)]; exact e3, by rw [hbh n hn (fun y hy => k2 y hy (Or.inl (by omega))), ec]; exact e4, by rw [hju b (by omega) k1]; exact e5, by rw [hju t ht ht2]; exact e6⟩
