/-! The program in the class and in the reference, and what each building call does to both. -/
def pend (ki : Nat → Int32) : List Nat → Nat
  | [] => 0
  | b :: r => (if dK ki b = 4 then 2 else 1) + pend ki r
def OS (op oo ie nu ki : Nat → Int32) : List Nat → Prop
  | [] => True
  | b :: r => op r.length = nI b ∧ oo r.length = nu b ∧ ie r.length = bI (decide (dK ki b = 5)) ∧ OS op oo ie nu ki r
def PR (ki nu fi se ju op : Nat → Int32) (en sm ob : Nat) (kd fs sc mi bh oo ie : Nat → Int32) (mz mo : Nat) : Prop :=
  en ≤ 120 ∧ sm = cnt ki en ∧ sm ≤ 40 ∧ mz = sm ∧ ob = (stk ki en).length ∧ mo = ob ∧ en + pend ki (stk ki en) ≤ 3 * sm ∧ (∀ t, t < en → Tk ki nu fi se ju kd fs sc mi bh t) ∧ (∀ t, t ≤ en → (stk ki t).length ≤ 6) ∧ (∀ i, ∃ j : Nat, j ≤ 120 ∧ ju i = nI j) ∧ OS op oo ie nu ki (stk ki en)
theorem pend_congr {ki ki' : Nat → Int32} : ∀ {s : List Nat}, (∀ y ∈ s, ki' y = ki y) → pend ki' s = pend ki s
  | [], _ => rfl
  | b :: r, h => by
    have e : dK ki' b = dK ki b := by rw [dK, dK, h b List.mem_cons_self]
    simp only [pend]
    rw [e, pend_congr (fun y hy => h y (List.mem_cons_of_mem _ hy))]
theorem OS_congr {op oo ie nu ki op' oo' ie' nu' ki' : Nat → Int32} : ∀ {s : List Nat}, (∀ i, i < s.length → op' i = op i ∧ oo' i = oo i ∧ ie' i = ie i) → (∀ y ∈ s, ki' y = ki y ∧ nu' y = nu y) → OS op oo ie nu ki s → OS op' oo' ie' nu' ki' s
  | [], _, _, _ => trivial
  | b :: r, h1, h2, ⟨a1, a2, a3, a4⟩ => by
    obtain ⟨q1, q2, q3⟩ := h1 r.length (by simp)
    obtain ⟨q4, q5⟩ := h2 b List.mem_cons_self
    have e : dK ki' b = dK ki b := by rw [dK, dK, q4]
    exact ⟨by rw [q1]; exact a1, by rw [q2, q5]; exact a2, by rw [q3, e]; exact a3, OS_congr (fun i hi => h1 i (by simp; omega)) (fun y hy => h2 y (List.mem_cons_of_mem _ hy)) a4⟩
theorem PR.clear {ki nu fi se ju op kd fs sc mi bh oo ie : Nat → Int32} {en sm ob mz mo : Nat} (h : PR ki nu fi se ju op en sm ob kd fs sc mi bh oo ie mz mo) : PR ki nu fi se ju op 0 0 0 kd fs sc mi bh oo ie 0 0 :=
  ⟨by omega, rfl, by omega, rfl, rfl, rfl, by simp [stk, pend], fun t ht => by omega, fun t ht => by rw [show t = 0 by omega]; simp [stk], h.2.2.2.2.2.2.2.2.2.1, trivial⟩
theorem updk {ki : Nat → Int32} {en d : Nat} (hd : d < 9) : (∀ i, i < en → upd ki en (nI d) i = ki i) ∧ cnt (upd ki en (nI d)) en = cnt ki en ∧ stk (upd ki en (nI d)) en = stk ki en ∧ dK (upd ki en (nI d)) en = d :=
  ⟨fun i hi => upd_lt hi, cnt_congr (fun i hi => upd_lt hi), stk_congr (fun i hi => upd_lt hi), dK_of pk_us hd⟩
theorem len6 {ki : Nat → Int32} {en d : Nat} (h : ∀ t, t ≤ en → (stk ki t).length ≤ 6) (h2 : (stk (upd ki en (nI d)) (en + 1)).length ≤ 6) : ∀ t, t ≤ en + 1 → (stk (upd ki en (nI d)) t).length ≤ 6 := by
  intro t ht
  by_cases q : t = en + 1
  · rw [q]; exact h2
  · rw [stk_congr (ki := ki) (fun i hi => upd_lt (by omega))]; exact h t (by omega)
theorem tkall {P : Nat → Prop} {en : Nat} (h : ∀ t, t < en → P t) (h2 : P en) : ∀ t, t < en + 1 → P t := fun t ht => by
  by_cases q : t = en
  · rw [q]; exact h2
  · exact h t (by omega)
theorem PR.simple {ki nu fi se ju op kd fs sc mi bh oo ie : Nat → Int32} {en sm ob mz mo : Nat} (h : PR ki nu fi se ju op en sm ob kd fs sc mi bh oo ie mz mo) (d v x : Nat) (hd : d < 4) (hv : v < 4) (hx : x < 4) (hx3 : d = 0 → x < 3) (hs : sm < 40) :
    PR (upd ki en (nI d)) (upd nu en (nI sm)) (upd fi en (nI v)) (upd se en (nI x)) ju op (en + 1) (sm + 1) ob (upd kd mz (nI d)) (upd fs mz (nI v)) (upd sc mz (nI x)) mi bh oo ie (mz + 1) mo := by
  obtain ⟨h1, h2, h3, h4, h5, h6, h7, h8, h9, h10, h11⟩ := h
  subst h4
  obtain ⟨k1, k2, k3, k4⟩ := updk (ki := ki) (en := en) (d := d) (by omega)
  have hso := SO.of h8 en (Nat.le_refl _)
  have es : stk (upd ki en (nI d)) (en + 1) = stk ki en := by simp only [stk, k4, k3]; rw [if_neg (by omega), if_neg (by omega), if_neg (by omega)]
  have hmem : ∀ y ∈ stk ki en, y < en := fun y hy => (SO.mem hso y hy).1
  refine ⟨by omega, ?_, by omega, rfl, by rw [es]; exact h5, h6, ?_, tkall (Tk.keep h8 k1 (fun i hi => upd_lt hi) (fun i hi => upd_lt hi) (fun i hi => upd_lt hi) (fun n hn => upd_lt (by omega)) (fun n hn => upd_lt (by omega)) (fun n hn => upd_lt (by omega)) (fun _ _ _ => rfl) (fun _ _ _ => rfl) (fun _ _ _ => rfl)) ?_, len6 h9 (by rw [es]; exact h9 en (Nat.le_refl _)), h10, ?_⟩
  · simp only [cnt, k4, k2]; rw [if_pos (by omega)]; omega
  · rw [es, pend_congr (ki := ki) (fun y hy => upd_lt (hmem y hy))]; omega
  · refine ⟨d, mz, v, x, pk_us, by omega, pk_us, by omega, pk_us, hv, pk_us, hx, hx3, fun _ => ⟨by rw [k2]; exact h2, by rw [if_neg (by omega)]; exact pk_us⟩, fun _ => ⟨pk_us, pk_us⟩, fun q => by omega, fun q => by omega, fun q => by omega⟩
  · rw [es]
    exact OS_congr (fun _ _ => ⟨rfl, rfl, rfl⟩) (fun y hy => ⟨upd_lt (hmem y hy), upd_lt (hmem y hy)⟩) h11
theorem PR.opening {ki nu fi se ju op kd fs sc mi bh oo ie : Nat → Int32} {en sm ob mz mo : Nat} (h : PR ki nu fi se ju op en sm ob kd fs sc mi bh oo ie mz mo) (d : Nat) (hd : d = 4 ∨ d = 7) (hs : sm < 40) (ho : ob < 6) :
    PR (upd ki en (nI d)) (upd nu en (nI sm)) (upd fi en (nI 0)) (upd se en (nI 0)) ju (upd op ob (nI en)) (en + 1) (sm + 1) (ob + 1) (upd kd mz (nI (if d = 7 then 5 else d))) (upd fs mz (nI 0)) (upd sc mz (nI 0)) mi bh (upd oo mo (nI mz)) (upd ie mo (bI false)) (mz + 1) (mo + 1) := by
  obtain ⟨h1, h2, h3, h4, h5, h6, h7, h8, h9, h10, h11⟩ := h
  subst h4
  subst h6
  obtain ⟨k1, k2, k3, k4⟩ := updk (ki := ki) (en := en) (d := d) (by omega)
  have hso := SO.of h8 en (Nat.le_refl _)
  have es : stk (upd ki en (nI d)) (en + 1) = en :: stk ki en := by simp only [stk, k4, k3]; rw [if_pos hd]
  have hmem : ∀ y ∈ stk ki en, y < en := fun y hy => (SO.mem hso y hy).1
  refine ⟨by omega, ?_, by omega, rfl, by rw [es, List.length_cons, ← h5], rfl, ?_, tkall (Tk.keep h8 k1 (fun i hi => upd_lt hi) (fun i hi => upd_lt hi) (fun i hi => upd_lt hi) (fun n hn => upd_lt (by omega)) (fun n hn => upd_lt (by omega)) (fun n hn => upd_lt (by omega)) (fun _ _ _ => rfl) (fun _ _ _ => rfl) (fun _ _ _ => rfl)) ?_, len6 h9 (by rw [es, List.length_cons, ← h5]; omega), h10, ?_⟩
  · simp only [cnt, k4, k2]; rw [if_pos (by omega)]; omega
  · rw [es]; simp only [pend, k4]; rw [pend_congr (ki := ki) (fun y hy => upd_lt (hmem y hy))]; split <;> omega
  · refine ⟨d, mz, 0, 0, pk_us, by omega, pk_us, by omega, pk_us, by omega, pk_us, by omega, fun _ => by omega, fun _ => ⟨by rw [k2]; exact h2, pk_us⟩, fun q => by omega, fun q => by omega, fun q => by omega, fun q => by omega⟩
  · rw [es]
    refine ⟨by rw [← h5]; exact pk_us, by rw [← h5]; exact pk_us.trans pk_us.symm, by rw [← h5, k4]; rw [decide_eq_false (by omega)]; exact pk_us, OS_congr (fun i hi => ⟨upd_lt (by omega), upd_lt (by omega), upd_lt (by omega)⟩) (fun y hy => ⟨upd_lt (hmem y hy), upd_lt (hmem y hy)⟩) h11⟩
theorem ju_all {ju : Nat → Int32} {k j : Nat} (h : ∀ i, ∃ j : Nat, j ≤ 120 ∧ ju i = nI j) (hj : j ≤ 120) : ∀ i, ∃ j' : Nat, j' ≤ 120 ∧ upd ju k (nI j) i = nI j' := fun i => by
  by_cases q : i = k
  · subst q; exact ⟨j, hj, pk_us⟩
  · obtain ⟨j', a, b⟩ := h i
    exact ⟨j', a, by rw [pk_un q]; exact b⟩
theorem PR.else_ {ki nu fi se ju op kd fs sc mi bh oo ie : Nat → Int32} {en sm ob mz mo : Nat} (h : PR ki nu fi se ju op en sm ob kd fs sc mi bh oo ie mz mo) (b n : Nat) (r : List Nat) (hs : stk ki en = b :: r) (hkb : ki b = nI 4) (hnb : nu b = nI n) (hn : n < 40) :
    PR (upd ki en (nI 5)) (upd nu en (nI n)) (upd fi en (nI 0)) (upd se en (nI 0)) (upd ju b (nI (en + 1))) (upd op (ob - 1) (nI en)) (en + 1) sm ob kd fs sc (upd mi n (nI mz)) bh oo (upd ie (mo - 1) (bI true)) mz mo := by
  obtain ⟨h1, h2, h3, h4, h5, h6, h7, h8, h9, h10, h11⟩ := h
  subst h4
  subst h6
  obtain ⟨k1, k2, k3, k4⟩ := updk (ki := ki) (en := en) (d := 5) (by omega)
  have hso := SO.of h8 en (Nat.le_refl _)
  rw [hs] at h5 h7 h11 hso
  have hl6 := h9 en (Nat.le_refl _)
  rw [hs] at hl6
  have hdb : dK ki b = 4 := dK_of hkb (by omega)
  simp only [pend, hdb, if_pos] at h7
  have hob : mo - 1 = r.length := by rw [h5]; simp
  have es : stk (upd ki en (nI 5)) (en + 1) = en :: r := by simp only [stk, k4, k3, hs]; rfl
  have hmem : ∀ y ∈ b :: r, y < en := fun y hy => (SO.mem hso y hy).1
  have hbm : b ∈ stk ki en := by rw [hs]; exact List.mem_cons_self
  refine ⟨by omega, ?_, h3, rfl, by rw [es, h5]; simp, rfl, ?_, tkall (Tk.keep h8 k1 (fun i hi => upd_lt hi) (fun i hi => upd_lt hi) (fun i hi => upd_lt hi) (fun _ _ => rfl) (fun _ _ => rfl) (fun _ _ => rfl) (fun i _ hi => pk_un (fun z => hi (by rw [z]; exact hbm))) (fun m _ hm => pk_un (fun z => hm b hbm hkb (by rw [z]; exact hnb))) (fun _ _ _ => rfl)) ?_, len6 h9 (by rw [es]; simpa using hl6), ju_all h10 (by omega), ?_⟩
  · simp only [cnt, k4, k2]; rw [if_neg (by omega)]; omega
  · rw [es]; simp only [pend, k4]; rw [pend_congr (ki := ki) (fun y hy => upd_lt (hmem y (List.mem_cons_of_mem _ hy)))]; rw [if_neg (by omega)]; omega
  · refine ⟨5, n, 0, 0, pk_us, by omega, pk_us, hn, pk_us, by omega, pk_us, by omega, fun _ => by omega, fun q => by omega, fun q => by omega, fun _ => ⟨b, r, by rw [k3]; exact hs, by rw [upd_lt (hmem b List.mem_cons_self)]; exact hnb, by rw [upd_lt (hmem b List.mem_cons_self)]; exact hkb, by rw [k2, pk_us, h2], pk_us⟩, fun q => by omega, fun q => by omega⟩
  · rw [es]
    obtain ⟨a1, a2, a3, a4⟩ := h11
    refine ⟨by rw [hob]; exact pk_us, by rw [a2, hnb]; exact pk_us.symm, by rw [hob, k4]; rw [decide_eq_true rfl]; exact pk_us, OS_congr (fun i hi => ⟨upd_lt (by omega), rfl, upd_lt (by omega)⟩) (fun y hy => ⟨upd_lt (hmem y (List.mem_cons_of_mem _ hy)), upd_lt (hmem y (List.mem_cons_of_mem _ hy))⟩) a4⟩
theorem PR.endE {ki nu fi se ju op kd fs sc mi bh oo ie : Nat → Int32} {en sm ob mz mo : Nat} (h : PR ki nu fi se ju op en sm ob kd fs sc mi bh oo ie mz mo) (b n : Nat) (r : List Nat) (hs : stk ki en = b :: r) (hkb : ki b = nI 5) (hnb : nu b = nI n) (hn : n < 40) :
    PR (upd ki en (nI 6)) (upd nu en (nI n)) (upd fi en (nI 0)) (upd se en (nI 0)) (upd ju b (nI (en + 1))) op (en + 1) sm (ob - 1) kd fs sc mi (upd bh n (nI mz)) oo ie mz (mo - 1) := by
  obtain ⟨h1, h2, h3, h4, h5, h6, h7, h8, h9, h10, h11⟩ := h
  subst h4
  subst h6
  obtain ⟨k1, k2, k3, k4⟩ := updk (ki := ki) (en := en) (d := 6) (by omega)
  have hso := SO.of h8 en (Nat.le_refl _)
  rw [hs] at h5 h7 h11 hso
  have hl6 := h9 en (Nat.le_refl _)
  rw [hs] at hl6
  have hdb : dK ki b = 5 := dK_of hkb (by omega)
  simp only [pend, hdb] at h7
  rw [if_neg (by omega)] at h7
  have hob : mo - 1 = r.length := by rw [h5]; simp
  have es : stk (upd ki en (nI 6)) (en + 1) = r := by simp only [stk, k4, k3, hs]; rfl
  have hmem : ∀ y ∈ b :: r, y < en := fun y hy => (SO.mem hso y hy).1
  have hbm : b ∈ stk ki en := by rw [hs]; exact List.mem_cons_self
  refine ⟨by omega, ?_, h3, rfl, by rw [es, hob], rfl, ?_, tkall (Tk.keep h8 k1 (fun i hi => upd_lt hi) (fun i hi => upd_lt hi) (fun i hi => upd_lt hi) (fun _ _ => rfl) (fun _ _ => rfl) (fun _ _ => rfl) (fun i _ hi => pk_un (fun z => hi (by rw [z]; exact hbm))) (fun _ _ _ => rfl) (fun m _ hm => pk_un (fun z => hm b hbm (by rw [z]; exact hnb)))) ?_, len6 h9 (by rw [es]; simp at hl6; omega), ju_all h10 (by omega), ?_⟩
  · simp only [cnt, k4, k2]; rw [if_neg (by omega)]; omega
  · rw [es, pend_congr (ki := ki) (fun y hy => upd_lt (hmem y (List.mem_cons_of_mem _ hy)))]; omega
  · refine ⟨6, n, 0, 0, pk_us, by omega, pk_us, hn, pk_us, by omega, pk_us, by omega, fun _ => by omega, fun q => by omega, fun q => by omega, fun q => by omega, fun _ => ⟨b, r, by rw [k3]; exact hs, by rw [upd_lt (hmem b List.mem_cons_self)]; exact hnb, by rw [upd_lt (hmem b List.mem_cons_self)]; exact hkb, by rw [k2, pk_us, h2], pk_us⟩, fun q => by omega⟩
  · rw [es]
    exact OS_congr (fun i hi => ⟨rfl, rfl, rfl⟩) (fun y hy => ⟨upd_lt (hmem y (List.mem_cons_of_mem _ hy)), upd_lt (hmem y (List.mem_cons_of_mem _ hy))⟩) h11.2.2.2
theorem PR.endW {ki nu fi se ju op kd fs sc mi bh oo ie : Nat → Int32} {en sm ob mz mo : Nat} (h : PR ki nu fi se ju op en sm ob kd fs sc mi bh oo ie mz mo) (b n : Nat) (r : List Nat) (hs : stk ki en = b :: r) (hkb : ki b = nI 7) (hnb : nu b = nI n) (hn : n < 40) :
    PR (upd ki en (nI 8)) (upd nu en (nI n)) (upd fi en (nI 0)) (upd se en (nI 0)) (upd (upd ju b (nI (en + 1))) en (nI b)) op (en + 1) sm (ob - 1) kd fs sc mi (upd bh n (nI mz)) oo ie mz (mo - 1) := by
  obtain ⟨h1, h2, h3, h4, h5, h6, h7, h8, h9, h10, h11⟩ := h
  subst h4
  subst h6
  obtain ⟨k1, k2, k3, k4⟩ := updk (ki := ki) (en := en) (d := 8) (by omega)
  have hso := SO.of h8 en (Nat.le_refl _)
  rw [hs] at h5 h7 h11 hso
  have hl6 := h9 en (Nat.le_refl _)
  rw [hs] at hl6
  have hdb : dK ki b = 7 := dK_of hkb (by omega)
  simp only [pend, hdb] at h7
  rw [if_neg (by omega)] at h7
  have hob : mo - 1 = r.length := by rw [h5]; simp
  have es : stk (upd ki en (nI 8)) (en + 1) = r := by simp only [stk, k4, k3, hs]; rfl
  have hmem : ∀ y ∈ b :: r, y < en := fun y hy => (SO.mem hso y hy).1
  have hbm : b ∈ stk ki en := by rw [hs]; exact List.mem_cons_self
  have hbl := hmem b List.mem_cons_self
  refine ⟨by omega, ?_, h3, rfl, by rw [es, hob], rfl, ?_, tkall (Tk.keep h8 k1 (fun i hi => upd_lt hi) (fun i hi => upd_lt hi) (fun i hi => upd_lt hi) (fun _ _ => rfl) (fun _ _ => rfl) (fun _ _ => rfl) (fun i hi1 hi => by rw [upd_lt hi1]; exact pk_un (fun z => hi (by rw [z]; exact hbm))) (fun _ _ _ => rfl) (fun m _ hm => pk_un (fun z => hm b hbm (by rw [z]; exact hnb)))) ?_, len6 h9 (by rw [es]; simp at hl6; omega), ju_all (ju_all h10 (by omega)) (by omega), ?_⟩
  · simp only [cnt, k4, k2]; rw [if_neg (by omega)]; omega
  · rw [es, pend_congr (ki := ki) (fun y hy => upd_lt (hmem y (List.mem_cons_of_mem _ hy)))]; omega
  · refine ⟨8, n, 0, 0, pk_us, by omega, pk_us, hn, pk_us, by omega, pk_us, by omega, fun _ => by omega, fun q => by omega, fun q => by omega, fun q => by omega, fun q => by omega, fun _ => ⟨b, r, by rw [k3]; exact hs, by rw [upd_lt hbl]; exact hnb, by rw [upd_lt hbl]; exact hkb, by rw [k2, pk_us, h2], by rw [upd_lt hbl]; exact pk_us, pk_us⟩⟩
  · rw [es]
    exact OS_congr (fun i hi => ⟨rfl, rfl, rfl⟩) (fun y hy => ⟨upd_lt (hmem y (List.mem_cons_of_mem _ hy)), upd_lt (hmem y (List.mem_cons_of_mem _ hy))⟩) h11.2.2.2
theorem PR.ie {ki nu fi se ju op kd fs sc mi bh oo ie ie' : Nat → Int32} {en sm ob mz mo : Nat} (h : PR ki nu fi se ju op en sm ob kd fs sc mi bh oo ie mz mo) (hi : ∀ i, i < ob → ie' i = ie i) : PR ki nu fi se ju op en sm ob kd fs sc mi bh oo ie' mz mo := by
  obtain ⟨h1, h2, h3, h4, h5, h6, h7, h8, h9, h10, h11⟩ := h
  exact ⟨h1, h2, h3, h4, h5, h6, h7, h8, h9, h10, OS_congr (fun i q => ⟨rfl, rfl, hi i (by omega)⟩) (fun _ _ => ⟨rfl, rfl⟩) h11⟩
/-- an IF that is ended without an else block -/
theorem PR.endI {ki nu fi se ju op kd fs sc mi bh oo ie : Nat → Int32} {en sm ob mz mo : Nat} (h : PR ki nu fi se ju op en sm ob kd fs sc mi bh oo ie mz mo) (b n : Nat) (r : List Nat) (hs : stk ki en = b :: r) (hkb : ki b = nI 4) (hnb : nu b = nI n) (hn : n < 40) :
    PR (upd (upd ki en (nI 5)) (en + 1) (nI 6)) (upd (upd nu en (nI n)) (en + 1) (nI n)) (upd (upd fi en (nI 0)) (en + 1) (nI 0)) (upd (upd se en (nI 0)) (en + 1) (nI 0)) (upd (upd ju b (nI (en + 1))) en (nI (en + 1 + 1))) (upd op (ob - 1) (nI en)) (en + 1 + 1) sm (ob - 1) kd fs sc (upd mi n (nI mz)) (upd bh n (nI mz)) oo ie mz (mo - 1) := by
  have h1 := PR.else_ h b n r hs hkb hnb hn
  have es : stk (upd ki en (nI 5)) (en + 1) = en :: r := by
    obtain ⟨k1, k2, k3, k4⟩ := updk (ki := ki) (en := en) (d := 5) (by omega)
    simp only [stk, k4, k3, hs]; rfl
  have h2 := PR.endE h1 en n r es pk_us pk_us hn
  have hmo : mo = ob := h.2.2.2.2.2.1
  refine PR.ie h2 (fun i hi => ?_)
  rw [pk_un (by omega)]
