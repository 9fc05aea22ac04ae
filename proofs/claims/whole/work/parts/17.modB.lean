def nowOf (A : Nat) : Nat → Int32 := fun v => if v < 4 then oI (hb A v) else 0
/-- row k of four, of what A holds -/
def rowU (f : Nat → Int32) (k A : Nat) : Nat → Int32 := fun j => if 4 * k ≤ j ∧ j < 4 * k + 4 then oI (hb A (j - 4 * k)) else f j
theorem nowOf_at {A v : Nat} (h : v < 4) : nowOf A v = oI (hb A v) := by simp [nowOf, h]
theorem nowOf_upd {A v n : Nat} (hA : A < 2 ^ 20) (hv : v < 4) (hn : n < 32) : upd (nowOf A) v (oI n) = nowOf (wh A v n) := by
  funext j
  simp only [upd, nowOf]
  by_cases h : j = v
  · subst h
    simp [hv, hb_wh_same hA hv hn]
  · by_cases h4 : j < 4
    · simp [h, h4, hb_wh_ne hA hv h4 hn h]
    · simp [h, h4]
theorem now4 {no : Nat → Int32} (hno : ∀ j, 4 ≤ j → no j = 0) (B : Nat) {a0 a1 a2 a3 : Int32} (h0 : a0 = oI (hb B 0)) (h1 : a1 = oI (hb B 1)) (h2 : a2 = oI (hb B 2)) (h3 : a3 = oI (hb B 3)) : upd (upd (upd (upd no 0 a0) 1 a1) 2 a2) 3 a3 = nowOf B := by
  subst h0 h1 h2 h3
  funext j
  simp only [upd, nowOf]
  by_cases h : j < 4
  · rcases (show j = 0 ∨ j = 1 ∨ j = 2 ∨ j = 3 by omega) with rfl | rfl | rfl | rfl <;> simp
  · simp [h, show ¬ j = 0 by omega, show ¬ j = 1 by omega, show ¬ j = 2 by omega, show ¬ j = 3 by omega, hno j (by omega)]
theorem row4 (f : Nat → Int32) (k A : Nat) : upd (upd (upd (upd f (4 * k) (oI (hb A 0))) (4 * k + 1) (oI (hb A 1))) (4 * k + 2) (oI (hb A 2))) (4 * k + 3) (oI (hb A 3)) = rowU f k A := by
  funext j
  simp only [upd, rowU]
  by_cases h : 4 * k ≤ j ∧ j < 4 * k + 4
  · rcases (show j = 4 * k ∨ j = 4 * k + 1 ∨ j = 4 * k + 2 ∨ j = 4 * k + 3 by omega) with rfl | rfl | rfl | rfl
    · simp
    · simp
    · simp
    · simp
  · simp [h, show ¬ j = 4 * k by omega, show ¬ j = 4 * k + 1 by omega, show ¬ j = 4 * k + 2 by omega, show ¬ j = 4 * k + 3 by omega]
theorem rowU_in {f : Nat → Int32} {k A v : Nat} (h : v < 4) : rowU f k A (4 * k + v) = oI (hb A v) := by simp [rowU, h]
theorem rowU_out {f : Nat → Int32} {k A i v : Nat} (h : v < 4) (hne : i ≠ k) : rowU f k A (4 * i + v) = f (4 * i + v) := by
  simp only [rowU]
  rw [if_neg (by omega)]
theorem nowOf_4 {A j : Nat} (h : 4 ≤ j) : nowOf A j = 0 := by simp [nowOf, show ¬ j < 4 by omega]
theorem oI_lt {n : Nat} (h : n < 2 ^ 31) : oI n < 0 ↔ n = 0 := by
  constructor
  · intro q
    rcases Nat.eq_zero_or_pos n with z | z
    · exact z
    · rw [oI_p z] at q
      exact absurd q (nI_pos (by omega))
  · rintro rfl
    decide
theorem oI_ge {n : Nat} (h : n < 2 ^ 31) : 0 ≤ oI n ↔ 0 < n := by
  constructor
  · intro q
    rcases Nat.eq_zero_or_pos n with z | z
    · subst z; exact absurd q (by decide)
    · exact z
  · intro z
    rw [oI_p z]
    exact nI_pos' (by omega)
/-- every variable holds nothing, or an object of a protocol in a state -/
def Okh (A : Nat) : Prop := A < 2 ^ 20 ∧ ∀ v, v < 4 → hb A v = 0 ∨ ∃ p s : Nat, p < 3 ∧ s < 5 ∧ hb A v = 8 * p + s + 1
theorem Okh.le {A : Nat} (h : Okh A) : ∀ v, v < 4 → hb A v ≤ 24 := fun v hv => by rcases h.2 v hv with z | ⟨p, s, hp, hs, e⟩ <;> omega

theorem wh_comm {A v x n k : Nat} (hA : A < 2 ^ 20) (hv : v < 4) (hx : x < 4) (hn : n < 32) (hk : k < 32) (hne : x ≠ v) : wh (wh A x k) v n = wh (wh A v n) x k := by
  apply hb_ext (wh_lt (wh_lt hA hx hk) hv hn) (wh_lt (wh_lt hA hv hn) hx hk)
  intro u hu
  by_cases h1 : u = v
  · subst h1
    rw [hb_wh_same (wh_lt hA hx hk) hv hn, hb_wh_ne (wh_lt hA hv hn) hx hu hk (fun q => hne q.symm), hb_wh_same hA hv hn]
  · by_cases h2 : u = x
    · subst h2
      rw [hb_wh_ne (wh_lt hA hx hk) hv hu hn h1, hb_wh_same hA hx hk, hb_wh_same (wh_lt hA hv hn) hx hk]
    · rw [hb_wh_ne (wh_lt hA hx hk) hv hu hn h1, hb_wh_ne hA hx hu hk h2, hb_wh_ne (wh_lt hA hv hn) hx hu hk h2, hb_wh_ne hA hv hu hn h1]

set_option maxRecDepth 100000 in
set_option maxHeartbeats 4000000 in
theorem m_work0 {D : va_G} {cI cZ cJ : ClassId} {l : Launch} {ad : Nat → Nat} {le : Nat → Int32} {la : Nat → Int32} {kd : Nat → Int32} {fs : Nat → Int32} {sc : Nat → Int32} {mi : Nat → Int32} {bh : Nat → Int32} {mz : Nat} {oo : Nat → Int32} {ie : Nat → Int32} {mo : Nat} {mp : Int32} {mf : Int32} {mq : Int32} {ms : Nat} {mt : Int32} {mc : Int32} {lf : Nat → Int32} {he : Nat → Int32} {pi : Nat → Int32} {ot : Nat → Int32} {bf : Nat → Int32} {ar : Nat → Int32} {md : Nat} (tn : Nat → Nat) (fb : Nat → Bool) (i v x A : Nat) (hi : i < 40) (hv : v < 4) (hx : x < 4) (hA : Okh A) (hf : fs i = nI v) (hs : sc i = nI x) (hk : kd i = nI 0) (hx3 : x < 3) : KM D (tyL cI cZ cJ) l yX5_work wsX5_work 0 0 [.ref (ad 0), .int (nI i)] (wM ad cI cZ le la kd fs sc mi bh mz oo ie mo mp mf mq ms mt mc (nowOf A) lf he pi ot bf ar md) (some (.int (nI (sim tn fb 0 v x A).1))) (wM ad cI cZ le la kd fs sc mi bh mz oo ie mo mp mf mq ms mt mc (nowOf (sim tn fb 0 v x A).2) lf he pi ot bf ar md) := by
  refine KM.of (cc := cX5_work) (nL := 6) (ret := (some .int)) (by decide +kernel) rfl (Nat.le_of_ble_eq_true rfl) ?_
  have i5 : ∀ w ∈ u_ws RX5 TX5 25, w ∈ wsX5_work := by decide +kernel
  refine v_aload_n 1 rfl dX5_work_0 rfl rfl ?_
  refine v_get (ci := 5) (C := RX5) (T := TX5) (N := 25) (v := .ref (ad 4)) 4 rfl 0 3 dX5_work_1 rfl (Nat.le_of_ble_eq_true rfl) i5 (by decide +kernel) rfl rfl ?_
  refine v_iload_n 5 rfl dX5_work_4 rfl rfl ?_
  refine v_iald (j := i) (v := nI v) 6 rfl 4 0 dX5_work_5 rfl rfl (by omega) (by decide) hf ?_
  refine v_istore_n (lv' := [(2, .int (nI v)), (0, .ref (ad 0)), (1, .int (nI i))]) 7 rfl dX5_work_6 rfl (Nat.le_of_ble_eq_true rfl) rfl ?_
  refine v_aload_n 8 rfl dX5_work_7 rfl rfl ?_
  refine v_get (ci := 5) (C := RX5) (T := TX5) (N := 25) (v := .ref (ad 5)) 11 rfl 0 4 dX5_work_8 rfl (Nat.le_of_ble_eq_true rfl) i5 (by decide +kernel) rfl rfl ?_
  refine v_iload_n 12 rfl dX5_work_11 rfl rfl ?_
  refine v_iald (j := i) (v := nI x) 13 rfl 5 0 dX5_work_12 rfl rfl (by omega) (by decide) hs ?_
  refine v_istore_n (lv' := [(3, .int (nI x)), (2, .int (nI v)), (0, .ref (ad 0)), (1, .int (nI i))]) 14 rfl dX5_work_13 rfl (Nat.le_of_ble_eq_true rfl) rfl ?_
  refine v_aload_n 15 rfl dX5_work_14 rfl rfl ?_
  refine v_get (ci := 5) (C := RX5) (T := TX5) (N := 25) (v := .ref (ad 10)) 18 rfl 0 17 dX5_work_15 rfl (Nat.le_of_ble_eq_true rfl) i5 (by decide +kernel) rfl rfl ?_
  refine v_iload_n 19 rfl dX5_work_18 rfl rfl ?_
  refine v_iald (j := v) (v := oI (hb A v)) 20 rfl 10 0 dX5_work_19 rfl rfl (by omega) (by decide) (nowOf_at hv) ?_
  refine v_istore (lv' := [(4, .int (oI (hb A v))), (3, .int (nI x)), (2, .int (nI v)), (0, .ref (ad 0)), (1, .int (nI i))]) 22 rfl dX5_work_20 (Nat.le_of_ble_eq_true rfl) rfl ?_
  refine v_aload_n 23 rfl dX5_work_22 rfl rfl ?_
  refine v_get (ci := 5) (C := RX5) (T := TX5) (N := 25) (v := .ref (ad 3)) 26 rfl 0 2 dX5_work_23 rfl (Nat.le_of_ble_eq_true rfl) i5 (by decide +kernel) rfl rfl ?_
  refine v_iload_n 27 rfl dX5_work_26 rfl rfl ?_
  refine v_iald (j := i) (v := nI 0) 28 rfl 3 0 dX5_work_27 rfl rfl (by omega) (by decide) hk ?_
  refine v_if_neN (a := 0) 50 31 rfl dX5_work_28 (by decide) (by omega) (fun q => False.elim (by omega)) (fun c28 => ?_)
  refine v_iload 33 rfl dX5_work_31 rfl ?_
  refine v_if_lt 38 36 rfl dX5_work_33 (by decide) (fun c33 => ?_) (fun c33 => ?_)
  · have z : hb A v = 0 := (oI_lt (by have := hb_lt A v; omega)).mp c33
    have e : sim tn fb 0 v x A = (0, wh A v (8 * x + 1)) := by simp [sim, *]
    refine v_aload_n 39 rfl dX5_work_38 rfl rfl ?_
    refine v_get (ci := 5) (C := RX5) (T := TX5) (N := 25) (v := .ref (ad 10)) 42 rfl 0 17 dX5_work_39 rfl (Nat.le_of_ble_eq_true rfl) i5 (by decide +kernel) rfl rfl ?_
    refine v_iload_n 43 rfl dX5_work_42 rfl rfl ?_
    refine v_bipush (v := nI 8) 45 rfl dX5_work_43 (by decide) ?_
    refine v_iload_n 46 rfl dX5_work_45 rfl rfl ?_
    refine v_imulN (a := 8) (b := x) 47 rfl dX5_work_46 ?_
    refine v_top (v' := oI (8 * x + 1)) (oI_s (8 * x)).symm ?_
    refine v_iast (j := v) (w' := wM ad cI cZ le la kd fs sc mi bh mz oo ie mo mp mf mq ms mt mc (nowOf (wh A v (8 * x + 1))) lf he pi ot bf ar md) 48 rfl 10 0 dX5_work_47 rfl rfl (by omega) (by decide) (by rw [← nowOf_upd hA.1 hv (by omega)]; rfl) ?_
    refine v_iconst (v := nI 0) 49 rfl dX5_work_48 (by decide) ?_
    exact v_iret dX5_work_49 rfl (by rw [e]) (by rw [e])
  · have z : 0 < hb A v := Nat.pos_of_ne_zero (fun h => c33 ((oI_lt (by have := hb_lt A v; omega)).mpr h))
    have e : sim tn fb 0 v x A = (1, A) := by simp [sim, show hb A v ≠ 0 by omega]
    refine v_iconst (v := nI 1) 37 rfl dX5_work_36 (by decide) ?_
    exact v_iret dX5_work_37 rfl (by rw [e]) (by rw [e])

set_option maxRecDepth 100000 in
set_option maxHeartbeats 4000000 in
theorem m_work1 {D : va_G} {cI cZ cJ : ClassId} {l : Launch} {ad : Nat → Nat} {le : Nat → Int32} {la : Nat → Int32} {kd : Nat → Int32} {fs : Nat → Int32} {sc : Nat → Int32} {mi : Nat → Int32} {bh : Nat → Int32} {mz : Nat} {oo : Nat → Int32} {ie : Nat → Int32} {mo : Nat} {mp : Int32} {mf : Int32} {mq : Int32} {ms : Nat} {mt : Int32} {mc : Int32} {lf : Nat → Int32} {he : Nat → Int32} {pi : Nat → Int32} {ot : Nat → Int32} {bf : Nat → Int32} {ar : Nat → Int32} {md : Nat} (tn : Nat → Nat) (fb : Nat → Bool) (i v x A : Nat) (hi : i < 40) (hv : v < 4) (hx : x < 4) (hA : Okh A) (hf : fs i = nI v) (hs : sc i = nI x) (hk : kd i = nI 1) (hle : ∀ p s e : Nat, p < 3 → s < 5 → e < 4 → le (20 * p + 4 * s + e) = nI (tn ((8 * p + s) * 4 + e)) ∧ tn ((8 * p + s) * 4 + e) ≤ 5) (hla : ∀ p s : Nat, p < 3 → s < 5 → la (5 * p + s) = bI (fb (8 * p + s)))  : KM D (tyL cI cZ cJ) l yX5_work wsX5_work 0 0 [.ref (ad 0), .int (nI i)] (wM ad cI cZ le la kd fs sc mi bh mz oo ie mo mp mf mq ms mt mc (nowOf A) lf he pi ot bf ar md) (some (.int (nI (sim tn fb 1 v x A).1))) (wM ad cI cZ le la kd fs sc mi bh mz oo ie mo mp mf mq ms mt mc (nowOf (sim tn fb 1 v x A).2) lf he pi ot bf ar md) := by
  refine KM.of (cc := cX5_work) (nL := 6) (ret := (some .int)) (by decide +kernel) rfl (Nat.le_of_ble_eq_true rfl) ?_
  have i5 : ∀ w ∈ u_ws RX5 TX5 25, w ∈ wsX5_work := by decide +kernel
  refine v_aload_n 1 rfl dX5_work_0 rfl rfl ?_
  refine v_get (ci := 5) (C := RX5) (T := TX5) (N := 25) (v := .ref (ad 4)) 4 rfl 0 3 dX5_work_1 rfl (Nat.le_of_ble_eq_true rfl) i5 (by decide +kernel) rfl rfl ?_
  refine v_iload_n 5 rfl dX5_work_4 rfl rfl ?_
  refine v_iald (j := i) (v := nI v) 6 rfl 4 0 dX5_work_5 rfl rfl (by omega) (by decide) hf ?_
  refine v_istore_n (lv' := [(2, .int (nI v)), (0, .ref (ad 0)), (1, .int (nI i))]) 7 rfl dX5_work_6 rfl (Nat.le_of_ble_eq_true rfl) rfl ?_
  refine v_aload_n 8 rfl dX5_work_7 rfl rfl ?_
  refine v_get (ci := 5) (C := RX5) (T := TX5) (N := 25) (v := .ref (ad 5)) 11 rfl 0 4 dX5_work_8 rfl (Nat.le_of_ble_eq_true rfl) i5 (by decide +kernel) rfl rfl ?_
  refine v_iload_n 12 rfl dX5_work_11 rfl rfl ?_
  refine v_iald (j := i) (v := nI x) 13 rfl 5 0 dX5_work_12 rfl rfl (by omega) (by decide) hs ?_
  refine v_istore_n (lv' := [(3, .int (nI x)), (2, .int (nI v)), (0, .ref (ad 0)), (1, .int (nI i))]) 14 rfl dX5_work_13 rfl (Nat.le_of_ble_eq_true rfl) rfl ?_
  refine v_aload_n 15 rfl dX5_work_14 rfl rfl ?_
  refine v_get (ci := 5) (C := RX5) (T := TX5) (N := 25) (v := .ref (ad 10)) 18 rfl 0 17 dX5_work_15 rfl (Nat.le_of_ble_eq_true rfl) i5 (by decide +kernel) rfl rfl ?_
  refine v_iload_n 19 rfl dX5_work_18 rfl rfl ?_
  refine v_iald (j := v) (v := oI (hb A v)) 20 rfl 10 0 dX5_work_19 rfl rfl (by omega) (by decide) (nowOf_at hv) ?_
  refine v_istore (lv' := [(4, .int (oI (hb A v))), (3, .int (nI x)), (2, .int (nI v)), (0, .ref (ad 0)), (1, .int (nI i))]) 22 rfl dX5_work_20 (Nat.le_of_ble_eq_true rfl) rfl ?_
  refine v_aload_n 23 rfl dX5_work_22 rfl rfl ?_
  refine v_get (ci := 5) (C := RX5) (T := TX5) (N := 25) (v := .ref (ad 3)) 26 rfl 0 2 dX5_work_23 rfl (Nat.le_of_ble_eq_true rfl) i5 (by decide +kernel) rfl rfl ?_
  refine v_iload_n 27 rfl dX5_work_26 rfl rfl ?_
  refine v_iald (j := i) (v := nI 1) 28 rfl 3 0 dX5_work_27 rfl rfl (by omega) (by decide) hk ?_
  refine v_if_neN (a := 1) 50 31 rfl dX5_work_28 (by decide) (by omega) (fun c28 => ?_) (fun q => False.elim (by omega))
  refine v_iload 52 rfl dX5_work_50 rfl ?_
  refine v_if_ge 57 55 rfl dX5_work_52 (by decide) (fun c52 => ?_) (fun c52 => ?_)
  · have z : 0 < hb A v := (oI_ge (by have := hb_lt A v; omega)).mp c52
    obtain ⟨p, s, hp, hs5, ho⟩ : ∃ p s : Nat, p < 3 ∧ s < 5 ∧ hb A v = 8 * p + s + 1 := by rcases hA.2 v hv with q | q; omega; exact q
    have e1 : sim tn fb 1 v x A = if tn ((8 * p + s) * 4 + x) = 0 then (3, A) else (0, wh A v (8 * p + tn ((8 * p + s) * 4 + x))) := by simp [sim, ho, show (8 * p + s) / 8 = p by omega]
    have ht := hle p s x hp hs5 hx
    refine v_aload_n 58 rfl dX5_work_57 rfl rfl ?_
    refine v_get (ci := 5) (C := RX5) (T := TX5) (N := 25) (v := .ref (ad 3)) 61 rfl 0 2 dX5_work_58 rfl (Nat.le_of_ble_eq_true rfl) i5 (by decide +kernel) rfl rfl ?_
    refine v_iload_n 62 rfl dX5_work_61 rfl rfl ?_
    refine v_iald (j := i) (v := nI 1) 63 rfl 3 0 dX5_work_62 rfl rfl (by omega) (by decide) hk ?_
    refine v_iconst (v := nI 1) 64 rfl dX5_work_63 (by decide) ?_
    refine v_icmp_neN (a := 1) (b := 1) 121 67 rfl dX5_work_64 (by decide) (by omega) (by omega) (fun q => False.elim (by omega)) (fun c64 => ?_)
    refine v_aload_n 68 rfl dX5_work_67 rfl rfl ?_
    refine v_get (ci := 5) (C := RX5) (T := TX5) (N := 25) (v := .ref (ad 1)) 71 rfl 0 0 dX5_work_68 rfl (Nat.le_of_ble_eq_true rfl) i5 (by decide +kernel) rfl rfl ?_
    refine v_iload 73 rfl dX5_work_71 rfl ?_
    refine v_top (v' := nI (8 * p + s)) (by rw [ho]; exact oI_s _) ?_
    refine v_bipush (v := nI 8) 75 rfl dX5_work_73 (by decide) ?_
    refine v_idivN (a := 8 * p + s) (b := 8) 76 rfl dX5_work_75 (by omega) (by omega) (by omega) ?_
    refine v_bipush (v := nI 20) 78 rfl dX5_work_76 (by decide) ?_
    refine v_imulN (a := (8 * p + s) / 8) (b := 20) 79 rfl dX5_work_78 ?_
    refine v_iload 81 rfl dX5_work_79 rfl ?_
    refine v_top (v' := nI (8 * p + s)) (by rw [ho]; exact oI_s _) ?_
    refine v_bipush (v := nI 8) 83 rfl dX5_work_81 (by decide) ?_
    refine v_iremN (a := 8 * p + s) (b := 8) 84 rfl dX5_work_83 (by omega) (by omega) (by omega) ?_
    refine v_iconst (v := nI 4) 85 rfl dX5_work_84 (by decide) ?_
    refine v_imulN (a := (8 * p + s) % 8) (b := 4) 86 rfl dX5_work_85 ?_
    refine v_iaddN (a := ((8 * p + s) / 8) * 20) (b := ((8 * p + s) % 8) * 4) 87 rfl dX5_work_86 ?_
    refine v_iload_n 88 rfl dX5_work_87 rfl rfl ?_
    refine v_iaddN (a := (((8 * p + s) / 8) * 20) + (((8 * p + s) % 8) * 4)) (b := x) 89 rfl dX5_work_88 ?_
    refine v_iald (j := ((((8 * p + s) / 8) * 20) + (((8 * p + s) % 8) * 4)) + x) (v := nI (tn ((8 * p + s) * 4 + x))) 90 rfl 1 0 dX5_work_89 rfl rfl (by omega) (by decide) (by rw [show (8 * p + s) / 8 * 20 + (8 * p + s) % 8 * 4 + x = 20 * p + 4 * s + x by omega]; exact ht.1) ?_
    refine v_istore (lv' := [(5, .int (nI (tn ((8 * p + s) * 4 + x)))), (4, .int (oI (hb A v))), (3, .int (nI x)), (2, .int (nI v)), (0, .ref (ad 0)), (1, .int (nI i))]) 92 rfl dX5_work_90 (Nat.le_of_ble_eq_true rfl) rfl ?_
    refine v_iload 94 rfl dX5_work_92 rfl ?_
    refine v_if_neN (a := tn ((8 * p + s) * 4 + x)) 99 97 rfl dX5_work_94 (by decide) (by omega) (fun c94 => ?_) (fun c94 => ?_)
    · have e : sim tn fb 1 v x A = (0, wh A v (8 * p + tn ((8 * p + s) * 4 + x))) := by rw [e1, if_neg (by omega)]
      refine v_aload_n 100 rfl dX5_work_99 rfl rfl ?_
      refine v_get (ci := 5) (C := RX5) (T := TX5) (N := 25) (v := .ref (ad 10)) 103 rfl 0 17 dX5_work_100 rfl (Nat.le_of_ble_eq_true rfl) i5 (by decide +kernel) rfl rfl ?_
      refine v_iload_n 104 rfl dX5_work_103 rfl rfl ?_
      refine v_iload 106 rfl dX5_work_104 rfl ?_
      refine v_top (v' := nI (8 * p + s)) (by rw [ho]; exact oI_s _) ?_
      refine v_bipush (v := nI 8) 108 rfl dX5_work_106 (by decide) ?_
      refine v_idivN (a := 8 * p + s) (b := 8) 109 rfl dX5_work_108 (by omega) (by omega) (by omega) ?_
      refine v_bipush (v := nI 8) 111 rfl dX5_work_109 (by decide) ?_
      refine v_imulN (a := (8 * p + s) / 8) (b := 8) 112 rfl dX5_work_111 ?_
      refine v_iload 114 rfl dX5_work_112 rfl ?_
      refine v_iaddN (a := ((8 * p + s) / 8) * 8) (b := tn ((8 * p + s) * 4 + x)) 115 rfl dX5_work_114 ?_
      refine v_iconst (v := nI 1) 116 rfl dX5_work_115 (by decide) ?_
      refine v_isubN (a := (((8 * p + s) / 8) * 8) + (tn ((8 * p + s) * 4 + x))) (b := 1) 117 rfl dX5_work_116 (by omega) ?_
      refine v_top (v' := oI (8 * p + tn ((8 * p + s) * 4 + x))) (by rw [oI_p (by omega), show (8 * p + s) / 8 = p by omega, Nat.mul_comm]) ?_
      refine v_iast (j := v) (w' := wM ad cI cZ le la kd fs sc mi bh mz oo ie mo mp mf mq ms mt mc (nowOf (wh A v (8 * p + tn ((8 * p + s) * 4 + x)))) lf he pi ot bf ar md) 118 rfl 10 0 dX5_work_117 rfl rfl (by omega) (by decide) (by rw [← nowOf_upd hA.1 hv (by omega)]; rfl) ?_
      refine v_goto 190 dX5_work_118 (by decide) ?_
      refine v_iconst (v := nI 0) 191 rfl dX5_work_190 (by decide) ?_
      exact v_iret dX5_work_191 rfl (by rw [e]) (by rw [e])
    · have e : sim tn fb 1 v x A = (3, A) := by rw [e1, if_pos c94]
      refine v_iconst (v := nI 3) 98 rfl dX5_work_97 (by decide) ?_
      exact v_iret dX5_work_98 rfl (by rw [e]) (by rw [e])
  · have z : hb A v = 0 := Nat.eq_zero_of_not_pos (fun h => c52 ((oI_ge (by have := hb_lt A v; omega)).mpr h))
    have e : sim tn fb 1 v x A = (2, A) := by simp [sim, z]
    refine v_iconst (v := nI 2) 56 rfl dX5_work_55 (by decide) ?_
    exact v_iret dX5_work_56 rfl (by rw [e]) (by rw [e])

set_option maxRecDepth 100000 in
set_option maxHeartbeats 4000000 in
theorem m_work2 {D : va_G} {cI cZ cJ : ClassId} {l : Launch} {ad : Nat → Nat} {le : Nat → Int32} {la : Nat → Int32} {kd : Nat → Int32} {fs : Nat → Int32} {sc : Nat → Int32} {mi : Nat → Int32} {bh : Nat → Int32} {mz : Nat} {oo : Nat → Int32} {ie : Nat → Int32} {mo : Nat} {mp : Int32} {mf : Int32} {mq : Int32} {ms : Nat} {mt : Int32} {mc : Int32} {lf : Nat → Int32} {he : Nat → Int32} {pi : Nat → Int32} {ot : Nat → Int32} {bf : Nat → Int32} {ar : Nat → Int32} {md : Nat} (tn : Nat → Nat) (fb : Nat → Bool) (i v x A : Nat) (hi : i < 40) (hv : v < 4) (hx : x < 4) (hA : Okh A) (hf : fs i = nI v) (hs : sc i = nI x) (hk : kd i = nI 2)  : KM D (tyL cI cZ cJ) l yX5_work wsX5_work 0 0 [.ref (ad 0), .int (nI i)] (wM ad cI cZ le la kd fs sc mi bh mz oo ie mo mp mf mq ms mt mc (nowOf A) lf he pi ot bf ar md) (some (.int (nI (sim tn fb 2 v x A).1))) (wM ad cI cZ le la kd fs sc mi bh mz oo ie mo mp mf mq ms mt mc (nowOf (sim tn fb 2 v x A).2) lf he pi ot bf ar md) := by
  refine KM.of (cc := cX5_work) (nL := 6) (ret := (some .int)) (by decide +kernel) rfl (Nat.le_of_ble_eq_true rfl) ?_
  have i5 : ∀ w ∈ u_ws RX5 TX5 25, w ∈ wsX5_work := by decide +kernel
  refine v_aload_n 1 rfl dX5_work_0 rfl rfl ?_
  refine v_get (ci := 5) (C := RX5) (T := TX5) (N := 25) (v := .ref (ad 4)) 4 rfl 0 3 dX5_work_1 rfl (Nat.le_of_ble_eq_true rfl) i5 (by decide +kernel) rfl rfl ?_
  refine v_iload_n 5 rfl dX5_work_4 rfl rfl ?_
  refine v_iald (j := i) (v := nI v) 6 rfl 4 0 dX5_work_5 rfl rfl (by omega) (by decide) hf ?_
  refine v_istore_n (lv' := [(2, .int (nI v)), (0, .ref (ad 0)), (1, .int (nI i))]) 7 rfl dX5_work_6 rfl (Nat.le_of_ble_eq_true rfl) rfl ?_
  refine v_aload_n 8 rfl dX5_work_7 rfl rfl ?_
  refine v_get (ci := 5) (C := RX5) (T := TX5) (N := 25) (v := .ref (ad 5)) 11 rfl 0 4 dX5_work_8 rfl (Nat.le_of_ble_eq_true rfl) i5 (by decide +kernel) rfl rfl ?_
  refine v_iload_n 12 rfl dX5_work_11 rfl rfl ?_
  refine v_iald (j := i) (v := nI x) 13 rfl 5 0 dX5_work_12 rfl rfl (by omega) (by decide) hs ?_
  refine v_istore_n (lv' := [(3, .int (nI x)), (2, .int (nI v)), (0, .ref (ad 0)), (1, .int (nI i))]) 14 rfl dX5_work_13 rfl (Nat.le_of_ble_eq_true rfl) rfl ?_
  refine v_aload_n 15 rfl dX5_work_14 rfl rfl ?_
  refine v_get (ci := 5) (C := RX5) (T := TX5) (N := 25) (v := .ref (ad 10)) 18 rfl 0 17 dX5_work_15 rfl (Nat.le_of_ble_eq_true rfl) i5 (by decide +kernel) rfl rfl ?_
  refine v_iload_n 19 rfl dX5_work_18 rfl rfl ?_
  refine v_iald (j := v) (v := oI (hb A v)) 20 rfl 10 0 dX5_work_19 rfl rfl (by omega) (by decide) (nowOf_at hv) ?_
  refine v_istore (lv' := [(4, .int (oI (hb A v))), (3, .int (nI x)), (2, .int (nI v)), (0, .ref (ad 0)), (1, .int (nI i))]) 22 rfl dX5_work_20 (Nat.le_of_ble_eq_true rfl) rfl ?_
  refine v_aload_n 23 rfl dX5_work_22 rfl rfl ?_
  refine v_get (ci := 5) (C := RX5) (T := TX5) (N := 25) (v := .ref (ad 3)) 26 rfl 0 2 dX5_work_23 rfl (Nat.le_of_ble_eq_true rfl) i5 (by decide +kernel) rfl rfl ?_
  refine v_iload_n 27 rfl dX5_work_26 rfl rfl ?_
  refine v_iald (j := i) (v := nI 2) 28 rfl 3 0 dX5_work_27 rfl rfl (by omega) (by decide) hk ?_
  refine v_if_neN (a := 2) 50 31 rfl dX5_work_28 (by decide) (by omega) (fun c28 => ?_) (fun q => False.elim (by omega))
  refine v_iload 52 rfl dX5_work_50 rfl ?_
  refine v_if_ge 57 55 rfl dX5_work_52 (by decide) (fun c52 => ?_) (fun c52 => ?_)
  · have z : 0 < hb A v := (oI_ge (by have := hb_lt A v; omega)).mp c52
    refine v_aload_n 58 rfl dX5_work_57 rfl rfl ?_
    refine v_get (ci := 5) (C := RX5) (T := TX5) (N := 25) (v := .ref (ad 3)) 61 rfl 0 2 dX5_work_58 rfl (Nat.le_of_ble_eq_true rfl) i5 (by decide +kernel) rfl rfl ?_
    refine v_iload_n 62 rfl dX5_work_61 rfl rfl ?_
    refine v_iald (j := i) (v := nI 2) 63 rfl 3 0 dX5_work_62 rfl rfl (by omega) (by decide) hk ?_
    refine v_iconst (v := nI 1) 64 rfl dX5_work_63 (by decide) ?_
    refine v_icmp_neN (a := 2) (b := 1) 121 67 rfl dX5_work_64 (by decide) (by omega) (by omega) (fun c64 => ?_) (fun q => False.elim (by omega))
    refine v_aload_n 122 rfl dX5_work_121 rfl rfl ?_
    refine v_get (ci := 5) (C := RX5) (T := TX5) (N := 25) (v := .ref (ad 3)) 125 rfl 0 2 dX5_work_122 rfl (Nat.le_of_ble_eq_true rfl) i5 (by decide +kernel) rfl rfl ?_
    refine v_iload_n 126 rfl dX5_work_125 rfl rfl ?_
    refine v_iald (j := i) (v := nI 2) 127 rfl 3 0 dX5_work_126 rfl rfl (by omega) (by decide) hk ?_
    refine v_iconst (v := nI 2) 128 rfl dX5_work_127 (by decide) ?_
    refine v_icmp_neN (a := 2) (b := 2) 160 131 rfl dX5_work_128 (by decide) (by omega) (by omega) (fun q => False.elim (by omega)) (fun c128 => ?_)
    refine v_aload_n 132 rfl dX5_work_131 rfl rfl ?_
    refine v_get (ci := 5) (C := RX5) (T := TX5) (N := 25) (v := .ref (ad 10)) 135 rfl 0 17 dX5_work_132 rfl (Nat.le_of_ble_eq_true rfl) i5 (by decide +kernel) rfl rfl ?_
    refine v_iload_n 136 rfl dX5_work_135 rfl rfl ?_
    refine v_iald (j := x) (v := oI (hb A x)) 137 rfl 10 0 dX5_work_136 rfl rfl (by omega) (by decide) (nowOf_at hx) ?_
    refine v_if_lt 142 140 rfl dX5_work_137 (by decide) (fun c137 => ?_) (fun c137 => ?_)
    · have zx : hb A x = 0 := (oI_lt (by have := hb_lt A x; omega)).mp c137
      have e : sim tn fb 2 v x A = (0, wh (wh A v 0) x (hb A v)) := by simp [sim, show hb A v ≠ 0 by omega, zx]
      have hxv : x ≠ v := fun q => by rw [q] at zx; omega
      have h32 := hb_lt A v
      refine v_aload_n 143 rfl dX5_work_142 rfl rfl ?_
      refine v_get (ci := 5) (C := RX5) (T := TX5) (N := 25) (v := .ref (ad 10)) 146 rfl 0 17 dX5_work_143 rfl (Nat.le_of_ble_eq_true rfl) i5 (by decide +kernel) rfl rfl ?_
      refine v_iload_n 147 rfl dX5_work_146 rfl rfl ?_
      refine v_iload 149 rfl dX5_work_147 rfl ?_
      refine v_iast (j := x) (w' := wM ad cI cZ le la kd fs sc mi bh mz oo ie mo mp mf mq ms mt mc (nowOf (wh A x (hb A v))) lf he pi ot bf ar md) 150 rfl 10 0 dX5_work_149 rfl rfl (by omega) (by decide) (by rw [← nowOf_upd hA.1 hx h32]; rfl) ?_
      refine v_aload_n 151 rfl dX5_work_150 rfl rfl ?_
      refine v_get (ci := 5) (C := RX5) (T := TX5) (N := 25) (v := .ref (ad 10)) 154 rfl 0 17 dX5_work_151 rfl (Nat.le_of_ble_eq_true rfl) i5 (by decide +kernel) rfl rfl ?_
      refine v_iload_n 155 rfl dX5_work_154 rfl rfl ?_
      refine v_iconst (v := -1) 156 rfl dX5_work_155 (by decide) ?_
      refine v_iast (j := v) (w' := wM ad cI cZ le la kd fs sc mi bh mz oo ie mo mp mf mq ms mt mc (nowOf (wh (wh A v 0) x (hb A v))) lf he pi ot bf ar md) 157 rfl 10 0 dX5_work_156 rfl rfl (by omega) (by decide) (by rw [← wh_comm hA.1 hv hx (by omega) h32 hxv, ← nowOf_upd (wh_lt hA.1 hx h32) hv (by omega)]; rfl) ?_
      refine v_goto 190 dX5_work_157 (by decide) ?_
      refine v_iconst (v := nI 0) 191 rfl dX5_work_190 (by decide) ?_
      exact v_iret dX5_work_191 rfl (by rw [e]) (by rw [e])
    · have zx : 0 < hb A x := Nat.pos_of_ne_zero (fun h => c137 ((oI_lt (by have := hb_lt A x; omega)).mpr h))
      have e : sim tn fb 2 v x A = (1, A) := by simp [sim, show hb A v ≠ 0 by omega, show hb A x ≠ 0 by omega]
      refine v_iconst (v := nI 1) 141 rfl dX5_work_140 (by decide) ?_
      exact v_iret dX5_work_141 rfl (by rw [e]) (by rw [e])
  · have z : hb A v = 0 := Nat.eq_zero_of_not_pos (fun h => c52 ((oI_ge (by have := hb_lt A v; omega)).mpr h))
    have e : sim tn fb 2 v x A = (2, A) := by simp [sim, z]
    refine v_iconst (v := nI 2) 56 rfl dX5_work_55 (by decide) ?_
    exact v_iret dX5_work_56 rfl (by rw [e]) (by rw [e])

set_option maxRecDepth 100000 in
set_option maxHeartbeats 4000000 in
theorem m_work3 {D : va_G} {cI cZ cJ : ClassId} {l : Launch} {ad : Nat → Nat} {le : Nat → Int32} {la : Nat → Int32} {kd : Nat → Int32} {fs : Nat → Int32} {sc : Nat → Int32} {mi : Nat → Int32} {bh : Nat → Int32} {mz : Nat} {oo : Nat → Int32} {ie : Nat → Int32} {mo : Nat} {mp : Int32} {mf : Int32} {mq : Int32} {ms : Nat} {mt : Int32} {mc : Int32} {lf : Nat → Int32} {he : Nat → Int32} {pi : Nat → Int32} {ot : Nat → Int32} {bf : Nat → Int32} {ar : Nat → Int32} {md : Nat} (tn : Nat → Nat) (fb : Nat → Bool) (i v x A : Nat) (hi : i < 40) (hv : v < 4) (hx : x < 4) (hA : Okh A) (hf : fs i = nI v) (hs : sc i = nI x) (hk : kd i = nI 3) (hle : ∀ p s e : Nat, p < 3 → s < 5 → e < 4 → le (20 * p + 4 * s + e) = nI (tn ((8 * p + s) * 4 + e)) ∧ tn ((8 * p + s) * 4 + e) ≤ 5) (hla : ∀ p s : Nat, p < 3 → s < 5 → la (5 * p + s) = bI (fb (8 * p + s)))  : KM D (tyL cI cZ cJ) l yX5_work wsX5_work 0 0 [.ref (ad 0), .int (nI i)] (wM ad cI cZ le la kd fs sc mi bh mz oo ie mo mp mf mq ms mt mc (nowOf A) lf he pi ot bf ar md) (some (.int (nI (sim tn fb 3 v x A).1))) (wM ad cI cZ le la kd fs sc mi bh mz oo ie mo mp mf mq ms mt mc (nowOf (sim tn fb 3 v x A).2) lf he pi ot bf ar md) := by
  refine KM.of (cc := cX5_work) (nL := 6) (ret := (some .int)) (by decide +kernel) rfl (Nat.le_of_ble_eq_true rfl) ?_
  have i5 : ∀ w ∈ u_ws RX5 TX5 25, w ∈ wsX5_work := by decide +kernel
  refine v_aload_n 1 rfl dX5_work_0 rfl rfl ?_
  refine v_get (ci := 5) (C := RX5) (T := TX5) (N := 25) (v := .ref (ad 4)) 4 rfl 0 3 dX5_work_1 rfl (Nat.le_of_ble_eq_true rfl) i5 (by decide +kernel) rfl rfl ?_
  refine v_iload_n 5 rfl dX5_work_4 rfl rfl ?_
  refine v_iald (j := i) (v := nI v) 6 rfl 4 0 dX5_work_5 rfl rfl (by omega) (by decide) hf ?_
  refine v_istore_n (lv' := [(2, .int (nI v)), (0, .ref (ad 0)), (1, .int (nI i))]) 7 rfl dX5_work_6 rfl (Nat.le_of_ble_eq_true rfl) rfl ?_
  refine v_aload_n 8 rfl dX5_work_7 rfl rfl ?_
  refine v_get (ci := 5) (C := RX5) (T := TX5) (N := 25) (v := .ref (ad 5)) 11 rfl 0 4 dX5_work_8 rfl (Nat.le_of_ble_eq_true rfl) i5 (by decide +kernel) rfl rfl ?_
  refine v_iload_n 12 rfl dX5_work_11 rfl rfl ?_
  refine v_iald (j := i) (v := nI x) 13 rfl 5 0 dX5_work_12 rfl rfl (by omega) (by decide) hs ?_
  refine v_istore_n (lv' := [(3, .int (nI x)), (2, .int (nI v)), (0, .ref (ad 0)), (1, .int (nI i))]) 14 rfl dX5_work_13 rfl (Nat.le_of_ble_eq_true rfl) rfl ?_
  refine v_aload_n 15 rfl dX5_work_14 rfl rfl ?_
  refine v_get (ci := 5) (C := RX5) (T := TX5) (N := 25) (v := .ref (ad 10)) 18 rfl 0 17 dX5_work_15 rfl (Nat.le_of_ble_eq_true rfl) i5 (by decide +kernel) rfl rfl ?_
  refine v_iload_n 19 rfl dX5_work_18 rfl rfl ?_
  refine v_iald (j := v) (v := oI (hb A v)) 20 rfl 10 0 dX5_work_19 rfl rfl (by omega) (by decide) (nowOf_at hv) ?_
  refine v_istore (lv' := [(4, .int (oI (hb A v))), (3, .int (nI x)), (2, .int (nI v)), (0, .ref (ad 0)), (1, .int (nI i))]) 22 rfl dX5_work_20 (Nat.le_of_ble_eq_true rfl) rfl ?_
  refine v_aload_n 23 rfl dX5_work_22 rfl rfl ?_
  refine v_get (ci := 5) (C := RX5) (T := TX5) (N := 25) (v := .ref (ad 3)) 26 rfl 0 2 dX5_work_23 rfl (Nat.le_of_ble_eq_true rfl) i5 (by decide +kernel) rfl rfl ?_
  refine v_iload_n 27 rfl dX5_work_26 rfl rfl ?_
  refine v_iald (j := i) (v := nI 3) 28 rfl 3 0 dX5_work_27 rfl rfl (by omega) (by decide) hk ?_
  refine v_if_neN (a := 3) 50 31 rfl dX5_work_28 (by decide) (by omega) (fun c28 => ?_) (fun q => False.elim (by omega))
  refine v_iload 52 rfl dX5_work_50 rfl ?_
  refine v_if_ge 57 55 rfl dX5_work_52 (by decide) (fun c52 => ?_) (fun c52 => ?_)
  · have z : 0 < hb A v := (oI_ge (by have := hb_lt A v; omega)).mp c52
    obtain ⟨p, s, hp, hs5, ho⟩ : ∃ p s : Nat, p < 3 ∧ s < 5 ∧ hb A v = 8 * p + s + 1 := by rcases hA.2 v hv with q | q; omega; exact q
    have e1 : sim tn fb 3 v x A = if fb (8 * p + s) = true then (0, wh A v 0) else (4, A) := by simp [sim, ho]
    refine v_aload_n 58 rfl dX5_work_57 rfl rfl ?_
    refine v_get (ci := 5) (C := RX5) (T := TX5) (N := 25) (v := .ref (ad 3)) 61 rfl 0 2 dX5_work_58 rfl (Nat.le_of_ble_eq_true rfl) i5 (by decide +kernel) rfl rfl ?_
    refine v_iload_n 62 rfl dX5_work_61 rfl rfl ?_
    refine v_iald (j := i) (v := nI 3) 63 rfl 3 0 dX5_work_62 rfl rfl (by omega) (by decide) hk ?_
    refine v_iconst (v := nI 1) 64 rfl dX5_work_63 (by decide) ?_
    refine v_icmp_neN (a := 3) (b := 1) 121 67 rfl dX5_work_64 (by decide) (by omega) (by omega) (fun c64 => ?_) (fun q => False.elim (by omega))
    refine v_aload_n 122 rfl dX5_work_121 rfl rfl ?_
    refine v_get (ci := 5) (C := RX5) (T := TX5) (N := 25) (v := .ref (ad 3)) 125 rfl 0 2 dX5_work_122 rfl (Nat.le_of_ble_eq_true rfl) i5 (by decide +kernel) rfl rfl ?_
    refine v_iload_n 126 rfl dX5_work_125 rfl rfl ?_
    refine v_iald (j := i) (v := nI 3) 127 rfl 3 0 dX5_work_126 rfl rfl (by omega) (by decide) hk ?_
    refine v_iconst (v := nI 2) 128 rfl dX5_work_127 (by decide) ?_
    refine v_icmp_neN (a := 3) (b := 2) 160 131 rfl dX5_work_128 (by decide) (by omega) (by omega) (fun c128 => ?_) (fun q => False.elim (by omega))
    refine v_aload_n 161 rfl dX5_work_160 rfl rfl ?_
    refine v_get (ci := 5) (C := RX5) (T := TX5) (N := 25) (v := .ref (ad 2)) 164 rfl 0 1 dX5_work_161 rfl (Nat.le_of_ble_eq_true rfl) i5 (by decide +kernel) rfl rfl ?_
    refine v_iload 166 rfl dX5_work_164 rfl ?_
    refine v_top (v' := nI (8 * p + s)) (by rw [ho]; exact oI_s _) ?_
    refine v_bipush (v := nI 8) 168 rfl dX5_work_166 (by decide) ?_
    refine v_idivN (a := 8 * p + s) (b := 8) 169 rfl dX5_work_168 (by omega) (by omega) (by omega) ?_
    refine v_iconst (v := nI 5) 170 rfl dX5_work_169 (by decide) ?_
    refine v_imulN (a := (8 * p + s) / 8) (b := 5) 171 rfl dX5_work_170 ?_
    refine v_iload 173 rfl dX5_work_171 rfl ?_
    refine v_top (v' := nI (8 * p + s)) (by rw [ho]; exact oI_s _) ?_
    refine v_bipush (v := nI 8) 175 rfl dX5_work_173 (by decide) ?_
    refine v_iremN (a := 8 * p + s) (b := 8) 176 rfl dX5_work_175 (by omega) (by omega) (by omega) ?_
    refine v_iaddN (a := ((8 * p + s) / 8) * 5) (b := (8 * p + s) % 8) 177 rfl dX5_work_176 ?_
    refine v_zald (j := (((8 * p + s) / 8) * 5) + ((8 * p + s) % 8)) (v := bI (fb (8 * p + s))) 178 rfl 2 1 dX5_work_177 rfl rfl (by omega) (by decide) (by rw [show (8 * p + s) / 8 * 5 + (8 * p + s) % 8 = 5 * p + s by omega]; exact hla p s hp hs5) ?_
    refine v_if_neB (b := fb (8 * p + s)) 183 181 rfl dX5_work_178 (by decide) (fun c178 => ?_) (fun c178 => ?_)
    · have e : sim tn fb 3 v x A = (0, wh A v 0) := by rw [e1, if_pos c178]
      refine v_aload_n 184 rfl dX5_work_183 rfl rfl ?_
      refine v_get (ci := 5) (C := RX5) (T := TX5) (N := 25) (v := .ref (ad 10)) 187 rfl 0 17 dX5_work_184 rfl (Nat.le_of_ble_eq_true rfl) i5 (by decide +kernel) rfl rfl ?_
      refine v_iload_n 188 rfl dX5_work_187 rfl rfl ?_
      refine v_iconst (v := -1) 189 rfl dX5_work_188 (by decide) ?_
      refine v_iast (j := v) (w' := wM ad cI cZ le la kd fs sc mi bh mz oo ie mo mp mf mq ms mt mc (nowOf (wh A v 0)) lf he pi ot bf ar md) 190 rfl 10 0 dX5_work_189 rfl rfl (by omega) (by decide) (by rw [← nowOf_upd hA.1 hv (by omega)]; rfl) ?_
      refine v_iconst (v := nI 0) 191 rfl dX5_work_190 (by decide) ?_
      exact v_iret dX5_work_191 rfl (by rw [e]) (by rw [e])
    · have e : sim tn fb 3 v x A = (4, A) := by rw [e1, if_neg (by rw [c178]; decide)]
      refine v_iconst (v := nI 4) 182 rfl dX5_work_181 (by decide) ?_
      exact v_iret dX5_work_182 rfl (by rw [e]) (by rw [e])
  · have z : hb A v = 0 := Nat.eq_zero_of_not_pos (fun h => c52 ((oI_ge (by have := hb_lt A v; omega)).mpr h))
    have e : sim tn fb 3 v x A = (2, A) := by simp [sim, z]
    refine v_iconst (v := nI 2) 56 rfl dX5_work_55 (by decide) ?_
    exact v_iret dX5_work_56 rfl (by rw [e]) (by rw [e])

theorem m_work {D : va_G} {cI cZ cJ : ClassId} {l : Launch} {ad : Nat → Nat} {le : Nat → Int32} {la : Nat → Int32} {kd : Nat → Int32} {fs : Nat → Int32} {sc : Nat → Int32} {mi : Nat → Int32} {bh : Nat → Int32} {mz : Nat} {oo : Nat → Int32} {ie : Nat → Int32} {mo : Nat} {mp : Int32} {mf : Int32} {mq : Int32} {ms : Nat} {mt : Int32} {mc : Int32} {lf : Nat → Int32} {he : Nat → Int32} {pi : Nat → Int32} {ot : Nat → Int32} {bf : Nat → Int32} {ar : Nat → Int32} {md : Nat} (tn : Nat → Nat) (fb : Nat → Bool) (i d v x A : Nat) (hi : i < 40) (hv : v < 4) (hx : x < 4) (hA : Okh A) (hf : fs i = nI v) (hs : sc i = nI x) (hk : kd i = nI d) (hd : d < 4) (hx3 : d = 0 → x < 3) (hle : ∀ p s e : Nat, p < 3 → s < 5 → e < 4 → le (20 * p + 4 * s + e) = nI (tn ((8 * p + s) * 4 + e)) ∧ tn ((8 * p + s) * 4 + e) ≤ 5) (hla : ∀ p s : Nat, p < 3 → s < 5 → la (5 * p + s) = bI (fb (8 * p + s))) : KM D (tyL cI cZ cJ) l yX5_work wsX5_work 0 0 [.ref (ad 0), .int (nI i)] (wM ad cI cZ le la kd fs sc mi bh mz oo ie mo mp mf mq ms mt mc (nowOf A) lf he pi ot bf ar md) (some (.int (nI (sim tn fb d v x A).1))) (wM ad cI cZ le la kd fs sc mi bh mz oo ie mo mp mf mq ms mt mc (nowOf (sim tn fb d v x A).2) lf he pi ot bf ar md) := by
  rcases (show d = 0 ∨ d = 1 ∨ d = 2 ∨ d = 3 by omega) with rfl | rfl | rfl | rfl
  · exact m_work0 tn fb i v x A hi hv hx hA hf hs hk (hx3 rfl)
  · exact m_work1 tn fb i v x A hi hv hx hA hf hs hk hle hla
  · exact m_work2 tn fb i v x A hi hv hx hA hf hs hk
  · exact m_work3 tn fb i v x A hi hv hx hA hf hs hk hle hla

set_option maxRecDepth 100000 in
set_option maxHeartbeats 4000000 in
theorem m_nothing {D : va_G} {cI cZ cJ : ClassId} {l : Launch} {ad : Nat → Nat} {le : Nat → Int32} {la : Nat → Int32} {kd : Nat → Int32} {fs : Nat → Int32} {sc : Nat → Int32} {mi : Nat → Int32} {bh : Nat → Int32} {mz : Nat} {oo : Nat → Int32} {ie : Nat → Int32} {mo : Nat} {mp : Int32} {mf : Int32} {mq : Int32} {ms : Nat} {mt : Int32} {mc : Int32} {no : Nat → Int32} {lf : Nat → Int32} {he : Nat → Int32} {pi : Nat → Int32} {ot : Nat → Int32} {bf : Nat → Int32} {ar : Nat → Int32} {md : Nat} (hno : ∀ j, 4 ≤ j → no j = 0) : KM D (tyL cI cZ cJ) l yX5_nothing wsX5_nothing 0 0 [.ref (ad 0)] (wM ad cI cZ le la kd fs sc mi bh mz oo ie mo mp mf mq ms mt mc no lf he pi ot bf ar md) none (wM ad cI cZ le la kd fs sc mi bh mz oo ie mo mp mf mq ms mt mc (nowOf 0) lf he pi ot bf ar 0) := by
  refine KM.of (cc := cX5_nothing) (nL := 2) (ret := none) (by decide +kernel) rfl (Nat.le_of_ble_eq_true rfl) ?_
  have i5 : ∀ w ∈ u_ws RX5 TX5 25, w ∈ wsX5_nothing := by decide +kernel
  refine v_iconst (v := nI 0) 1 rfl dX5_nothing_0 (by decide) ?_
  refine v_istore_n (lv' := [(1, .int (nI 0)), (0, .ref (ad 0))]) 2 rfl dX5_nothing_1 rfl (Nat.le_of_ble_eq_true rfl) rfl ?_
  refine v_iload_n 3 rfl dX5_nothing_2 rfl rfl ?_
  refine v_iconst (v := nI 4) 4 rfl dX5_nothing_3 (by decide) ?_
  refine v_icmp_geN (a := 0) (b := 4) 20 7 rfl dX5_nothing_4 (by decide) (by omega) (by omega) (fun q => False.elim (by omega)) (fun c4 => ?_)
  refine v_aload_n 8 rfl dX5_nothing_7 rfl rfl ?_
  refine v_get (ci := 5) (C := RX5) (T := TX5) (N := 25) (v := .ref (ad 10)) 11 rfl 0 17 dX5_nothing_8 rfl (Nat.le_of_ble_eq_true rfl) i5 (by decide +kernel) rfl rfl ?_
  refine v_iload_n 12 rfl dX5_nothing_11 rfl rfl ?_
  refine v_iconst (v := -1) 13 rfl dX5_nothing_12 (by decide) ?_
  refine v_iast (j := 0) (w' := wM ad cI cZ le la kd fs sc mi bh mz oo ie mo mp mf mq ms mt mc (upd no 0 (-1)) lf he pi ot bf ar md) 14 rfl 10 0 dX5_nothing_13 rfl rfl (by omega) (by decide) rfl ?_
  refine v_iinc (v := nI 1) (lv' := [(1, .int (nI 1)), (0, .ref (ad 0))]) 17 rfl dX5_nothing_14 0 rfl (nI_add _ _) (Nat.le_of_ble_eq_true rfl) rfl ?_
  refine v_goto 2 dX5_nothing_17 (by decide) ?_
  refine v_iload_n 3 rfl dX5_nothing_2 rfl rfl ?_
  refine v_iconst (v := nI 4) 4 rfl dX5_nothing_3 (by decide) ?_
  refine v_icmp_geN (a := 1) (b := 4) 20 7 rfl dX5_nothing_4 (by decide) (by omega) (by omega) (fun q => False.elim (by omega)) (fun c4 => ?_)
  refine v_aload_n 8 rfl dX5_nothing_7 rfl rfl ?_
  refine v_get (ci := 5) (C := RX5) (T := TX5) (N := 25) (v := .ref (ad 10)) 11 rfl 0 17 dX5_nothing_8 rfl (Nat.le_of_ble_eq_true rfl) i5 (by decide +kernel) rfl rfl ?_
  refine v_iload_n 12 rfl dX5_nothing_11 rfl rfl ?_
  refine v_iconst (v := -1) 13 rfl dX5_nothing_12 (by decide) ?_
  refine v_iast (j := 1) (w' := wM ad cI cZ le la kd fs sc mi bh mz oo ie mo mp mf mq ms mt mc (upd (upd no 0 (-1)) 1 (-1)) lf he pi ot bf ar md) 14 rfl 10 0 dX5_nothing_13 rfl rfl (by omega) (by decide) rfl ?_
  refine v_iinc (v := nI 2) (lv' := [(1, .int (nI 2)), (0, .ref (ad 0))]) 17 rfl dX5_nothing_14 0 rfl (nI_add _ _) (Nat.le_of_ble_eq_true rfl) rfl ?_
  refine v_goto 2 dX5_nothing_17 (by decide) ?_
  refine v_iload_n 3 rfl dX5_nothing_2 rfl rfl ?_
  refine v_iconst (v := nI 4) 4 rfl dX5_nothing_3 (by decide) ?_
  refine v_icmp_geN (a := 2) (b := 4) 20 7 rfl dX5_nothing_4 (by decide) (by omega) (by omega) (fun q => False.elim (by omega)) (fun c4 => ?_)
  refine v_aload_n 8 rfl dX5_nothing_7 rfl rfl ?_
  refine v_get (ci := 5) (C := RX5) (T := TX5) (N := 25) (v := .ref (ad 10)) 11 rfl 0 17 dX5_nothing_8 rfl (Nat.le_of_ble_eq_true rfl) i5 (by decide +kernel) rfl rfl ?_
  refine v_iload_n 12 rfl dX5_nothing_11 rfl rfl ?_
  refine v_iconst (v := -1) 13 rfl dX5_nothing_12 (by decide) ?_
  refine v_iast (j := 2) (w' := wM ad cI cZ le la kd fs sc mi bh mz oo ie mo mp mf mq ms mt mc (upd (upd (upd no 0 (-1)) 1 (-1)) 2 (-1)) lf he pi ot bf ar md) 14 rfl 10 0 dX5_nothing_13 rfl rfl (by omega) (by decide) rfl ?_
  refine v_iinc (v := nI 3) (lv' := [(1, .int (nI 3)), (0, .ref (ad 0))]) 17 rfl dX5_nothing_14 0 rfl (nI_add _ _) (Nat.le_of_ble_eq_true rfl) rfl ?_
  refine v_goto 2 dX5_nothing_17 (by decide) ?_
  refine v_iload_n 3 rfl dX5_nothing_2 rfl rfl ?_
  refine v_iconst (v := nI 4) 4 rfl dX5_nothing_3 (by decide) ?_
  refine v_icmp_geN (a := 3) (b := 4) 20 7 rfl dX5_nothing_4 (by decide) (by omega) (by omega) (fun q => False.elim (by omega)) (fun c4 => ?_)
  refine v_aload_n 8 rfl dX5_nothing_7 rfl rfl ?_
  refine v_get (ci := 5) (C := RX5) (T := TX5) (N := 25) (v := .ref (ad 10)) 11 rfl 0 17 dX5_nothing_8 rfl (Nat.le_of_ble_eq_true rfl) i5 (by decide +kernel) rfl rfl ?_
  refine v_iload_n 12 rfl dX5_nothing_11 rfl rfl ?_
  refine v_iconst (v := -1) 13 rfl dX5_nothing_12 (by decide) ?_
  refine v_iast (j := 3) (w' := wM ad cI cZ le la kd fs sc mi bh mz oo ie mo mp mf mq ms mt mc (upd (upd (upd (upd no 0 (-1)) 1 (-1)) 2 (-1)) 3 (-1)) lf he pi ot bf ar md) 14 rfl 10 0 dX5_nothing_13 rfl rfl (by omega) (by decide) rfl ?_
  refine v_iinc (v := nI 4) (lv' := [(1, .int (nI 4)), (0, .ref (ad 0))]) 17 rfl dX5_nothing_14 0 rfl (nI_add _ _) (Nat.le_of_ble_eq_true rfl) rfl ?_
  refine v_goto 2 dX5_nothing_17 (by decide) ?_
  refine v_iload_n 3 rfl dX5_nothing_2 rfl rfl ?_
  refine v_iconst (v := nI 4) 4 rfl dX5_nothing_3 (by decide) ?_
  refine v_icmp_geN (a := 4) (b := 4) 20 7 rfl dX5_nothing_4 (by decide) (by omega) (by omega) (fun c4 => ?_) (fun q => False.elim (by omega))
  refine v_w (w' := wM ad cI cZ le la kd fs sc mi bh mz oo ie mo mp mf mq ms mt mc (nowOf 0) lf he pi ot bf ar md) (by rw [now4 hno 0 (by decide) (by decide) (by decide) (by decide)]) ?_
  refine v_aload_n 21 rfl dX5_nothing_20 rfl rfl ?_
  refine v_iconst (v := nI 0) 22 rfl dX5_nothing_21 (by decide) ?_
  refine v_put (ci := 5) (C := RX5) (T := TX5) (ty0 := tyX5) (N := 25) (ty := .int) (w' := wM ad cI cZ le la kd fs sc mi bh mz oo ie mo mp mf mq ms mt mc (nowOf 0) lf he pi ot bf ar 0) 25 rfl 0 24 dX5_nothing_22 rfl (Nat.le_of_ble_eq_true rfl) i5 tyX5_ok nmX5 (by decide +kernel) rfl (by decide +kernel) rfl rfl rfl (Nat.le_of_ble_eq_true rfl) rfl ?_
  exact v_vret dX5_nothing_25 rfl rfl rfl

set_option maxRecDepth 100000 in
set_option maxHeartbeats 4000000 in
theorem m_sameA {D : va_G} {cI cZ cJ : ClassId} {l : Launch} {ad : Nat → Nat} {le : Nat → Int32} {la : Nat → Int32} {kd : Nat → Int32} {fs : Nat → Int32} {sc : Nat → Int32} {mi : Nat → Int32} {bh : Nat → Int32} {mz : Nat} {oo : Nat → Int32} {ie : Nat → Int32} {mo : Nat} {mp : Int32} {mf : Int32} {mq : Int32} {ms : Nat} {mt : Int32} {mc : Int32} {lf : Nat → Int32} {he : Nat → Int32} {pi : Nat → Int32} {ot : Nat → Int32} {bf : Nat → Int32} {ar : Nat → Int32} {md : Nat} (k A B : Nat) (hk : k < 6) (hA : A < 2 ^ 20) (hB2 : B < 2 ^ 20) (hB : ∀ v, v < 4 → ar (4 * k + v) = oI (hb B v)) : KM D (tyL cI cZ cJ) l yX5_same wsX5_same 0 0 [.ref (ad 0), .ref (ad 16), .int (nI (4 * k))] (wM ad cI cZ le la kd fs sc mi bh mz oo ie mo mp mf mq ms mt mc (nowOf A) lf he pi ot bf ar md) (some (.int (bI (decide (A = B))))) (wM ad cI cZ le la kd fs sc mi bh mz oo ie mo mp mf mq ms mt mc (nowOf A) lf he pi ot bf ar md) := by
  refine KM.of (cc := cX5_same) (nL := 4) (ret := (some .boolean)) (by decide +kernel) rfl (Nat.le_of_ble_eq_true rfl) ?_
  have i5 : ∀ w ∈ u_ws RX5 TX5 25, w ∈ wsX5_same := by decide +kernel
  refine v_iconst (v := nI 0) 1 rfl dX5_same_0 (by decide) ?_
  refine v_istore_n (lv' := [(3, .int (nI 0)), (0, .ref (ad 0)), (1, .ref (ad 16)), (2, .int (nI (4 * k)))]) 2 rfl dX5_same_1 rfl (Nat.le_of_ble_eq_true rfl) rfl ?_
  refine v_iload_n 3 rfl dX5_same_2 rfl rfl ?_
  refine v_iconst (v := nI 4) 4 rfl dX5_same_3 (by decide) ?_
  refine v_icmp_geN (a := 0) (b := 4) 29 7 rfl dX5_same_4 (by decide) (by omega) (by omega) (fun q => False.elim (by omega)) (fun c4 => ?_)
  refine v_aload_n 8 rfl dX5_same_7 rfl rfl ?_
  refine v_get (ci := 5) (C := RX5) (T := TX5) (N := 25) (v := .ref (ad 10)) 11 rfl 0 17 dX5_same_8 rfl (Nat.le_of_ble_eq_true rfl) i5 (by decide +kernel) rfl rfl ?_
  refine v_iload_n 12 rfl dX5_same_11 rfl rfl ?_
  refine v_iald (j := 0) (v := oI (hb A 0)) 13 rfl 10 0 dX5_same_12 rfl rfl (by omega) (by decide) (nowOf_at (by omega)) ?_
  refine v_aload_n 14 rfl dX5_same_13 rfl rfl ?_
  refine v_iload_n 15 rfl dX5_same_14 rfl rfl ?_
  refine v_iload_n 16 rfl dX5_same_15 rfl rfl ?_
  refine v_iaddN (a := 4 * k) (b := 0) 17 rfl dX5_same_16 ?_
  refine v_iald (j := 4 * k) (v := oI (hb B 0)) 18 rfl 16 0 dX5_same_17 rfl rfl (by omega) (by decide) (hB 0 (by omega)) ?_
  refine v_icmp_eq 23 21 rfl dX5_same_18 (by decide) (fun e0 => ?_) (fun e0 => ?_)
  · refine v_iinc (v := nI 1) (lv' := [(3, .int (nI 1)), (0, .ref (ad 0)), (1, .ref (ad 16)), (2, .int (nI (4 * k)))]) 26 rfl dX5_same_23 0 rfl (nI_add _ _) (Nat.le_of_ble_eq_true rfl) rfl ?_
    refine v_goto 2 dX5_same_26 (by decide) ?_
    refine v_iload_n 3 rfl dX5_same_2 rfl rfl ?_
    refine v_iconst (v := nI 4) 4 rfl dX5_same_3 (by decide) ?_
    refine v_icmp_geN (a := 1) (b := 4) 29 7 rfl dX5_same_4 (by decide) (by omega) (by omega) (fun q => False.elim (by omega)) (fun c4 => ?_)
    refine v_aload_n 8 rfl dX5_same_7 rfl rfl ?_
    refine v_get (ci := 5) (C := RX5) (T := TX5) (N := 25) (v := .ref (ad 10)) 11 rfl 0 17 dX5_same_8 rfl (Nat.le_of_ble_eq_true rfl) i5 (by decide +kernel) rfl rfl ?_
    refine v_iload_n 12 rfl dX5_same_11 rfl rfl ?_
    refine v_iald (j := 1) (v := oI (hb A 1)) 13 rfl 10 0 dX5_same_12 rfl rfl (by omega) (by decide) (nowOf_at (by omega)) ?_
    refine v_aload_n 14 rfl dX5_same_13 rfl rfl ?_
    refine v_iload_n 15 rfl dX5_same_14 rfl rfl ?_
    refine v_iload_n 16 rfl dX5_same_15 rfl rfl ?_
    refine v_iaddN (a := 4 * k) (b := 1) 17 rfl dX5_same_16 ?_
    refine v_iald (j := (4 * k) + 1) (v := oI (hb B 1)) 18 rfl 16 0 dX5_same_17 rfl rfl (by omega) (by decide) (hB 1 (by omega)) ?_
    refine v_icmp_eq 23 21 rfl dX5_same_18 (by decide) (fun e1 => ?_) (fun e1 => ?_)
    · refine v_iinc (v := nI 2) (lv' := [(3, .int (nI 2)), (0, .ref (ad 0)), (1, .ref (ad 16)), (2, .int (nI (4 * k)))]) 26 rfl dX5_same_23 0 rfl (nI_add _ _) (Nat.le_of_ble_eq_true rfl) rfl ?_
      refine v_goto 2 dX5_same_26 (by decide) ?_
      refine v_iload_n 3 rfl dX5_same_2 rfl rfl ?_
      refine v_iconst (v := nI 4) 4 rfl dX5_same_3 (by decide) ?_
      refine v_icmp_geN (a := 2) (b := 4) 29 7 rfl dX5_same_4 (by decide) (by omega) (by omega) (fun q => False.elim (by omega)) (fun c4 => ?_)
      refine v_aload_n 8 rfl dX5_same_7 rfl rfl ?_
      refine v_get (ci := 5) (C := RX5) (T := TX5) (N := 25) (v := .ref (ad 10)) 11 rfl 0 17 dX5_same_8 rfl (Nat.le_of_ble_eq_true rfl) i5 (by decide +kernel) rfl rfl ?_
      refine v_iload_n 12 rfl dX5_same_11 rfl rfl ?_
      refine v_iald (j := 2) (v := oI (hb A 2)) 13 rfl 10 0 dX5_same_12 rfl rfl (by omega) (by decide) (nowOf_at (by omega)) ?_
      refine v_aload_n 14 rfl dX5_same_13 rfl rfl ?_
      refine v_iload_n 15 rfl dX5_same_14 rfl rfl ?_
      refine v_iload_n 16 rfl dX5_same_15 rfl rfl ?_
      refine v_iaddN (a := 4 * k) (b := 2) 17 rfl dX5_same_16 ?_
      refine v_iald (j := (4 * k) + 2) (v := oI (hb B 2)) 18 rfl 16 0 dX5_same_17 rfl rfl (by omega) (by decide) (hB 2 (by omega)) ?_
      refine v_icmp_eq 23 21 rfl dX5_same_18 (by decide) (fun e2 => ?_) (fun e2 => ?_)
      · refine v_iinc (v := nI 3) (lv' := [(3, .int (nI 3)), (0, .ref (ad 0)), (1, .ref (ad 16)), (2, .int (nI (4 * k)))]) 26 rfl dX5_same_23 0 rfl (nI_add _ _) (Nat.le_of_ble_eq_true rfl) rfl ?_
        refine v_goto 2 dX5_same_26 (by decide) ?_
        refine v_iload_n 3 rfl dX5_same_2 rfl rfl ?_
        refine v_iconst (v := nI 4) 4 rfl dX5_same_3 (by decide) ?_
        refine v_icmp_geN (a := 3) (b := 4) 29 7 rfl dX5_same_4 (by decide) (by omega) (by omega) (fun q => False.elim (by omega)) (fun c4 => ?_)
        refine v_aload_n 8 rfl dX5_same_7 rfl rfl ?_
        refine v_get (ci := 5) (C := RX5) (T := TX5) (N := 25) (v := .ref (ad 10)) 11 rfl 0 17 dX5_same_8 rfl (Nat.le_of_ble_eq_true rfl) i5 (by decide +kernel) rfl rfl ?_
        refine v_iload_n 12 rfl dX5_same_11 rfl rfl ?_
        refine v_iald (j := 3) (v := oI (hb A 3)) 13 rfl 10 0 dX5_same_12 rfl rfl (by omega) (by decide) (nowOf_at (by omega)) ?_
        refine v_aload_n 14 rfl dX5_same_13 rfl rfl ?_
        refine v_iload_n 15 rfl dX5_same_14 rfl rfl ?_
        refine v_iload_n 16 rfl dX5_same_15 rfl rfl ?_
        refine v_iaddN (a := 4 * k) (b := 3) 17 rfl dX5_same_16 ?_
        refine v_iald (j := (4 * k) + 3) (v := oI (hb B 3)) 18 rfl 16 0 dX5_same_17 rfl rfl (by omega) (by decide) (hB 3 (by omega)) ?_
        refine v_icmp_eq 23 21 rfl dX5_same_18 (by decide) (fun e3 => ?_) (fun e3 => ?_)
        · refine v_iinc (v := nI 4) (lv' := [(3, .int (nI 4)), (0, .ref (ad 0)), (1, .ref (ad 16)), (2, .int (nI (4 * k)))]) 26 rfl dX5_same_23 0 rfl (nI_add _ _) (Nat.le_of_ble_eq_true rfl) rfl ?_
          refine v_goto 2 dX5_same_26 (by decide) ?_
          refine v_iload_n 3 rfl dX5_same_2 rfl rfl ?_
          refine v_iconst (v := nI 4) 4 rfl dX5_same_3 (by decide) ?_
          refine v_icmp_geN (a := 4) (b := 4) 29 7 rfl dX5_same_4 (by decide) (by omega) (by omega) (fun c4 => ?_) (fun q => False.elim (by omega))
          refine v_iconst (v := nI 1) 30 rfl dX5_same_29 (by decide) ?_
          refine v_top (v' := bI true) (by decide) ?_
          exact v_zret dX5_same_30 rfl (by rw [decide_eq_true (hb_ext hA hB2 (fun v hv => by rcases (show v = 0 ∨ v = 1 ∨ v = 2 ∨ v = 3 by omega) with rfl | rfl | rfl | rfl; exact oI_inj (by have := hb_lt A 0; omega) (by have := hb_lt B 0; omega) e0; exact oI_inj (by have := hb_lt A 1; omega) (by have := hb_lt B 1; omega) e1; exact oI_inj (by have := hb_lt A 2; omega) (by have := hb_lt B 2; omega) e2; exact oI_inj (by have := hb_lt A 3; omega) (by have := hb_lt B 3; omega) e3))]) rfl
        · refine v_iconst (v := nI 0) 22 rfl dX5_same_21 (by decide) ?_
          refine v_top (v' := bI false) (by decide) ?_
          exact v_zret dX5_same_22 rfl (by rw [decide_eq_false (fun q : A = B => e3 (by rw [q]))]) rfl
      · refine v_iconst (v := nI 0) 22 rfl dX5_same_21 (by decide) ?_
        refine v_top (v' := bI false) (by decide) ?_
        exact v_zret dX5_same_22 rfl (by rw [decide_eq_false (fun q : A = B => e2 (by rw [q]))]) rfl
    · refine v_iconst (v := nI 0) 22 rfl dX5_same_21 (by decide) ?_
      refine v_top (v' := bI false) (by decide) ?_
      exact v_zret dX5_same_22 rfl (by rw [decide_eq_false (fun q : A = B => e1 (by rw [q]))]) rfl
  · refine v_iconst (v := nI 0) 22 rfl dX5_same_21 (by decide) ?_
    refine v_top (v' := bI false) (by decide) ?_
    exact v_zret dX5_same_22 rfl (by rw [decide_eq_false (fun q : A = B => e0 (by rw [q]))]) rfl

set_option maxRecDepth 100000 in
set_option maxHeartbeats 4000000 in
theorem m_sameB {D : va_G} {cI cZ cJ : ClassId} {l : Launch} {ad : Nat → Nat} {le : Nat → Int32} {la : Nat → Int32} {kd : Nat → Int32} {fs : Nat → Int32} {sc : Nat → Int32} {mi : Nat → Int32} {bh : Nat → Int32} {mz : Nat} {oo : Nat → Int32} {ie : Nat → Int32} {mo : Nat} {mp : Int32} {mf : Int32} {mq : Int32} {ms : Nat} {mt : Int32} {mc : Int32} {lf : Nat → Int32} {he : Nat → Int32} {pi : Nat → Int32} {ot : Nat → Int32} {bf : Nat → Int32} {ar : Nat → Int32} {md : Nat} (k A B : Nat) (hk : k < 6) (hA : A < 2 ^ 20) (hB2 : B < 2 ^ 20) (hB : ∀ v, v < 4 → bf (4 * k + v) = oI (hb B v)) : KM D (tyL cI cZ cJ) l yX5_same wsX5_same 0 0 [.ref (ad 0), .ref (ad 15), .int (nI (4 * k))] (wM ad cI cZ le la kd fs sc mi bh mz oo ie mo mp mf mq ms mt mc (nowOf A) lf he pi ot bf ar md) (some (.int (bI (decide (A = B))))) (wM ad cI cZ le la kd fs sc mi bh mz oo ie mo mp mf mq ms mt mc (nowOf A) lf he pi ot bf ar md) := by
  refine KM.of (cc := cX5_same) (nL := 4) (ret := (some .boolean)) (by decide +kernel) rfl (Nat.le_of_ble_eq_true rfl) ?_
  have i5 : ∀ w ∈ u_ws RX5 TX5 25, w ∈ wsX5_same := by decide +kernel
  refine v_iconst (v := nI 0) 1 rfl dX5_same_0 (by decide) ?_
  refine v_istore_n (lv' := [(3, .int (nI 0)), (0, .ref (ad 0)), (1, .ref (ad 15)), (2, .int (nI (4 * k)))]) 2 rfl dX5_same_1 rfl (Nat.le_of_ble_eq_true rfl) rfl ?_
  refine v_iload_n 3 rfl dX5_same_2 rfl rfl ?_
  refine v_iconst (v := nI 4) 4 rfl dX5_same_3 (by decide) ?_
  refine v_icmp_geN (a := 0) (b := 4) 29 7 rfl dX5_same_4 (by decide) (by omega) (by omega) (fun q => False.elim (by omega)) (fun c4 => ?_)
  refine v_aload_n 8 rfl dX5_same_7 rfl rfl ?_
  refine v_get (ci := 5) (C := RX5) (T := TX5) (N := 25) (v := .ref (ad 10)) 11 rfl 0 17 dX5_same_8 rfl (Nat.le_of_ble_eq_true rfl) i5 (by decide +kernel) rfl rfl ?_
  refine v_iload_n 12 rfl dX5_same_11 rfl rfl ?_
  refine v_iald (j := 0) (v := oI (hb A 0)) 13 rfl 10 0 dX5_same_12 rfl rfl (by omega) (by decide) (nowOf_at (by omega)) ?_
  refine v_aload_n 14 rfl dX5_same_13 rfl rfl ?_
  refine v_iload_n 15 rfl dX5_same_14 rfl rfl ?_
  refine v_iload_n 16 rfl dX5_same_15 rfl rfl ?_
  refine v_iaddN (a := 4 * k) (b := 0) 17 rfl dX5_same_16 ?_
  refine v_iald (j := 4 * k) (v := oI (hb B 0)) 18 rfl 15 0 dX5_same_17 rfl rfl (by omega) (by decide) (hB 0 (by omega)) ?_
  refine v_icmp_eq 23 21 rfl dX5_same_18 (by decide) (fun e0 => ?_) (fun e0 => ?_)
  · refine v_iinc (v := nI 1) (lv' := [(3, .int (nI 1)), (0, .ref (ad 0)), (1, .ref (ad 15)), (2, .int (nI (4 * k)))]) 26 rfl dX5_same_23 0 rfl (nI_add _ _) (Nat.le_of_ble_eq_true rfl) rfl ?_
    refine v_goto 2 dX5_same_26 (by decide) ?_
    refine v_iload_n 3 rfl dX5_same_2 rfl rfl ?_
    refine v_iconst (v := nI 4) 4 rfl dX5_same_3 (by decide) ?_
    refine v_icmp_geN (a := 1) (b := 4) 29 7 rfl dX5_same_4 (by decide) (by omega) (by omega) (fun q => False.elim (by omega)) (fun c4 => ?_)
    refine v_aload_n 8 rfl dX5_same_7 rfl rfl ?_
    refine v_get (ci := 5) (C := RX5) (T := TX5) (N := 25) (v := .ref (ad 10)) 11 rfl 0 17 dX5_same_8 rfl (Nat.le_of_ble_eq_true rfl) i5 (by decide +kernel) rfl rfl ?_
    refine v_iload_n 12 rfl dX5_same_11 rfl rfl ?_
    refine v_iald (j := 1) (v := oI (hb A 1)) 13 rfl 10 0 dX5_same_12 rfl rfl (by omega) (by decide) (nowOf_at (by omega)) ?_
    refine v_aload_n 14 rfl dX5_same_13 rfl rfl ?_
    refine v_iload_n 15 rfl dX5_same_14 rfl rfl ?_
    refine v_iload_n 16 rfl dX5_same_15 rfl rfl ?_
    refine v_iaddN (a := 4 * k) (b := 1) 17 rfl dX5_same_16 ?_
    refine v_iald (j := (4 * k) + 1) (v := oI (hb B 1)) 18 rfl 15 0 dX5_same_17 rfl rfl (by omega) (by decide) (hB 1 (by omega)) ?_
    refine v_icmp_eq 23 21 rfl dX5_same_18 (by decide) (fun e1 => ?_) (fun e1 => ?_)
    · refine v_iinc (v := nI 2) (lv' := [(3, .int (nI 2)), (0, .ref (ad 0)), (1, .ref (ad 15)), (2, .int (nI (4 * k)))]) 26 rfl dX5_same_23 0 rfl (nI_add _ _) (Nat.le_of_ble_eq_true rfl) rfl ?_
      refine v_goto 2 dX5_same_26 (by decide) ?_
      refine v_iload_n 3 rfl dX5_same_2 rfl rfl ?_
      refine v_iconst (v := nI 4) 4 rfl dX5_same_3 (by decide) ?_
      refine v_icmp_geN (a := 2) (b := 4) 29 7 rfl dX5_same_4 (by decide) (by omega) (by omega) (fun q => False.elim (by omega)) (fun c4 => ?_)
      refine v_aload_n 8 rfl dX5_same_7 rfl rfl ?_
      refine v_get (ci := 5) (C := RX5) (T := TX5) (N := 25) (v := .ref (ad 10)) 11 rfl 0 17 dX5_same_8 rfl (Nat.le_of_ble_eq_true rfl) i5 (by decide +kernel) rfl rfl ?_
      refine v_iload_n 12 rfl dX5_same_11 rfl rfl ?_
      refine v_iald (j := 2) (v := oI (hb A 2)) 13 rfl 10 0 dX5_same_12 rfl rfl (by omega) (by decide) (nowOf_at (by omega)) ?_
      refine v_aload_n 14 rfl dX5_same_13 rfl rfl ?_
      refine v_iload_n 15 rfl dX5_same_14 rfl rfl ?_
      refine v_iload_n 16 rfl dX5_same_15 rfl rfl ?_
      refine v_iaddN (a := 4 * k) (b := 2) 17 rfl dX5_same_16 ?_
      refine v_iald (j := (4 * k) + 2) (v := oI (hb B 2)) 18 rfl 15 0 dX5_same_17 rfl rfl (by omega) (by decide) (hB 2 (by omega)) ?_
      refine v_icmp_eq 23 21 rfl dX5_same_18 (by decide) (fun e2 => ?_) (fun e2 => ?_)
      · refine v_iinc (v := nI 3) (lv' := [(3, .int (nI 3)), (0, .ref (ad 0)), (1, .ref (ad 15)), (2, .int (nI (4 * k)))]) 26 rfl dX5_same_23 0 rfl (nI_add _ _) (Nat.le_of_ble_eq_true rfl) rfl ?_
        refine v_goto 2 dX5_same_26 (by decide) ?_
        refine v_iload_n 3 rfl dX5_same_2 rfl rfl ?_
        refine v_iconst (v := nI 4) 4 rfl dX5_same_3 (by decide) ?_
        refine v_icmp_geN (a := 3) (b := 4) 29 7 rfl dX5_same_4 (by decide) (by omega) (by omega) (fun q => False.elim (by omega)) (fun c4 => ?_)
        refine v_aload_n 8 rfl dX5_same_7 rfl rfl ?_
        refine v_get (ci := 5) (C := RX5) (T := TX5) (N := 25) (v := .ref (ad 10)) 11 rfl 0 17 dX5_same_8 rfl (Nat.le_of_ble_eq_true rfl) i5 (by decide +kernel) rfl rfl ?_
        refine v_iload_n 12 rfl dX5_same_11 rfl rfl ?_
        refine v_iald (j := 3) (v := oI (hb A 3)) 13 rfl 10 0 dX5_same_12 rfl rfl (by omega) (by decide) (nowOf_at (by omega)) ?_
        refine v_aload_n 14 rfl dX5_same_13 rfl rfl ?_
        refine v_iload_n 15 rfl dX5_same_14 rfl rfl ?_
        refine v_iload_n 16 rfl dX5_same_15 rfl rfl ?_
        refine v_iaddN (a := 4 * k) (b := 3) 17 rfl dX5_same_16 ?_
        refine v_iald (j := (4 * k) + 3) (v := oI (hb B 3)) 18 rfl 15 0 dX5_same_17 rfl rfl (by omega) (by decide) (hB 3 (by omega)) ?_
        refine v_icmp_eq 23 21 rfl dX5_same_18 (by decide) (fun e3 => ?_) (fun e3 => ?_)
        · refine v_iinc (v := nI 4) (lv' := [(3, .int (nI 4)), (0, .ref (ad 0)), (1, .ref (ad 15)), (2, .int (nI (4 * k)))]) 26 rfl dX5_same_23 0 rfl (nI_add _ _) (Nat.le_of_ble_eq_true rfl) rfl ?_
          refine v_goto 2 dX5_same_26 (by decide) ?_
          refine v_iload_n 3 rfl dX5_same_2 rfl rfl ?_
          refine v_iconst (v := nI 4) 4 rfl dX5_same_3 (by decide) ?_
          refine v_icmp_geN (a := 4) (b := 4) 29 7 rfl dX5_same_4 (by decide) (by omega) (by omega) (fun c4 => ?_) (fun q => False.elim (by omega))
          refine v_iconst (v := nI 1) 30 rfl dX5_same_29 (by decide) ?_
          refine v_top (v' := bI true) (by decide) ?_
          exact v_zret dX5_same_30 rfl (by rw [decide_eq_true (hb_ext hA hB2 (fun v hv => by rcases (show v = 0 ∨ v = 1 ∨ v = 2 ∨ v = 3 by omega) with rfl | rfl | rfl | rfl; exact oI_inj (by have := hb_lt A 0; omega) (by have := hb_lt B 0; omega) e0; exact oI_inj (by have := hb_lt A 1; omega) (by have := hb_lt B 1; omega) e1; exact oI_inj (by have := hb_lt A 2; omega) (by have := hb_lt B 2; omega) e2; exact oI_inj (by have := hb_lt A 3; omega) (by have := hb_lt B 3; omega) e3))]) rfl
        · refine v_iconst (v := nI 0) 22 rfl dX5_same_21 (by decide) ?_
          refine v_top (v' := bI false) (by decide) ?_
          exact v_zret dX5_same_22 rfl (by rw [decide_eq_false (fun q : A = B => e3 (by rw [q]))]) rfl
      · refine v_iconst (v := nI 0) 22 rfl dX5_same_21 (by decide) ?_
        refine v_top (v' := bI false) (by decide) ?_
        exact v_zret dX5_same_22 rfl (by rw [decide_eq_false (fun q : A = B => e2 (by rw [q]))]) rfl
    · refine v_iconst (v := nI 0) 22 rfl dX5_same_21 (by decide) ?_
      refine v_top (v' := bI false) (by decide) ?_
      exact v_zret dX5_same_22 rfl (by rw [decide_eq_false (fun q : A = B => e1 (by rw [q]))]) rfl
  · refine v_iconst (v := nI 0) 22 rfl dX5_same_21 (by decide) ?_
    refine v_top (v' := bI false) (by decide) ?_
    exact v_zret dX5_same_22 rfl (by rw [decide_eq_false (fun q : A = B => e0 (by rw [q]))]) rfl

set_option maxRecDepth 100000 in
set_option maxHeartbeats 4000000 in
theorem m_blockEndT {D : va_G} {cI cZ cJ : ClassId} {l : Launch} {ad : Nat → Nat} {le : Nat → Int32} {la : Nat → Int32} {kd : Nat → Int32} {fs : Nat → Int32} {sc : Nat → Int32} {mi : Nat → Int32} {bh : Nat → Int32} {mz : Nat} {oo : Nat → Int32} {ie : Nat → Int32} {mo : Nat} {mp : Int32} {mf : Int32} {mq : Int32} {ms : Nat} {mt : Int32} {mc : Int32} {no : Nat → Int32} {lf : Nat → Int32} {he : Nat → Int32} {pi : Nat → Int32} {ot : Nat → Int32} {bf : Nat → Int32} {ar : Nat → Int32} {md : Nat} (k i e : Nat) (hmd : md = k + 1) (hk : k < 6) (hp : pi k = nI i) (hi : i < 40) (hd : kd i = nI 4) (hot : ot k = bI false) (he1 : mi i = nI e) : KM D (tyL cI cZ cJ) l yX5_blockEnd wsX5_blockEnd 0 0 [.ref (ad 0)] (wM ad cI cZ le la kd fs sc mi bh mz oo ie mo mp mf mq ms mt mc no lf he pi ot bf ar md) (some (.int (nI e))) (wM ad cI cZ le la kd fs sc mi bh mz oo ie mo mp mf mq ms mt mc no lf he pi ot bf ar md) := by
  refine KM.of (cc := cX5_blockEnd) (nL := 2) (ret := (some .int)) (by decide +kernel) rfl (Nat.le_of_ble_eq_true rfl) ?_
  have i5 : ∀ w ∈ u_ws RX5 TX5 25, w ∈ wsX5_blockEnd := by decide +kernel
  refine v_aload_n 1 rfl dX5_blockEnd_0 rfl rfl ?_
  refine v_get (ci := 5) (C := RX5) (T := TX5) (N := 25) (v := .ref (ad 13)) 4 rfl 0 20 dX5_blockEnd_1 rfl (Nat.le_of_ble_eq_true rfl) i5 (by decide +kernel) rfl rfl ?_
  refine v_aload_n 5 rfl dX5_blockEnd_4 rfl rfl ?_
  refine v_get (ci := 5) (C := RX5) (T := TX5) (N := 25) (v := .int (nI md)) 8 rfl 0 24 dX5_blockEnd_5 rfl (Nat.le_of_ble_eq_true rfl) i5 (by decide +kernel) rfl rfl ?_
  refine v_iconst (v := nI 1) 9 rfl dX5_blockEnd_8 (by decide) ?_
  refine v_isubN (a := md) (b := 1) 10 rfl dX5_blockEnd_9 (by omega) ?_
  refine v_iald (j := md - 1) (v := nI i) 11 rfl 13 0 dX5_blockEnd_10 rfl rfl (by omega) (by decide) (by rw [hmd]; exact hp) ?_
  refine v_istore_n (lv' := [(1, .int (nI i)), (0, .ref (ad 0))]) 12 rfl dX5_blockEnd_11 rfl (Nat.le_of_ble_eq_true rfl) rfl ?_
  refine v_aload_n 13 rfl dX5_blockEnd_12 rfl rfl ?_
  refine v_get (ci := 5) (C := RX5) (T := TX5) (N := 25) (v := .ref (ad 3)) 16 rfl 0 2 dX5_blockEnd_13 rfl (Nat.le_of_ble_eq_true rfl) i5 (by decide +kernel) rfl rfl ?_
  refine v_iload_n 17 rfl dX5_blockEnd_16 rfl rfl ?_
  refine v_iald (j := i) (v := nI 4) 18 rfl 3 0 dX5_blockEnd_17 rfl rfl (by omega) (by decide) hd ?_
  refine v_iconst (v := nI 4) 19 rfl dX5_blockEnd_18 (by decide) ?_
  refine v_icmp_neN (a := 4) (b := 4) 45 22 rfl dX5_blockEnd_19 (by decide) (by omega) (by omega) (fun q => False.elim (by omega)) (fun c19 => ?_)
  refine v_aload_n 23 rfl dX5_blockEnd_22 rfl rfl ?_
  refine v_get (ci := 5) (C := RX5) (T := TX5) (N := 25) (v := .ref (ad 14)) 26 rfl 0 21 dX5_blockEnd_23 rfl (Nat.le_of_ble_eq_true rfl) i5 (by decide +kernel) rfl rfl ?_
  refine v_aload_n 27 rfl dX5_blockEnd_26 rfl rfl ?_
  refine v_get (ci := 5) (C := RX5) (T := TX5) (N := 25) (v := .int (nI md)) 30 rfl 0 24 dX5_blockEnd_27 rfl (Nat.le_of_ble_eq_true rfl) i5 (by decide +kernel) rfl rfl ?_
  refine v_iconst (v := nI 1) 31 rfl dX5_blockEnd_30 (by decide) ?_
  refine v_isubN (a := md) (b := 1) 32 rfl dX5_blockEnd_31 (by omega) ?_
  refine v_zald (j := md - 1) (v := bI false) 33 rfl 14 1 dX5_blockEnd_32 rfl rfl (by omega) (by decide) (by rw [hmd]; exact hot) ?_
  refine v_if_neB (b := false) 45 36 rfl dX5_blockEnd_33 (by decide) (fun q => False.elim (by cases q)) (fun c33 => ?_)
  refine v_aload_n 37 rfl dX5_blockEnd_36 rfl rfl ?_
  refine v_get (ci := 5) (C := RX5) (T := TX5) (N := 25) (v := .ref (ad 6)) 40 rfl 0 5 dX5_blockEnd_37 rfl (Nat.le_of_ble_eq_true rfl) i5 (by decide +kernel) rfl rfl ?_
  refine v_iload_n 41 rfl dX5_blockEnd_40 rfl rfl ?_
  refine v_iald (j := i) (v := nI e) 42 rfl 6 0 dX5_blockEnd_41 rfl rfl (by omega) (by decide) he1 ?_
  refine v_goto 51 dX5_blockEnd_42 (by decide) ?_
  exact v_iret dX5_blockEnd_51 rfl rfl rfl

set_option maxRecDepth 100000 in
set_option maxHeartbeats 4000000 in
theorem m_blockEndE {D : va_G} {cI cZ cJ : ClassId} {l : Launch} {ad : Nat → Nat} {le : Nat → Int32} {la : Nat → Int32} {kd : Nat → Int32} {fs : Nat → Int32} {sc : Nat → Int32} {mi : Nat → Int32} {bh : Nat → Int32} {mz : Nat} {oo : Nat → Int32} {ie : Nat → Int32} {mo : Nat} {mp : Int32} {mf : Int32} {mq : Int32} {ms : Nat} {mt : Int32} {mc : Int32} {no : Nat → Int32} {lf : Nat → Int32} {he : Nat → Int32} {pi : Nat → Int32} {ot : Nat → Int32} {bf : Nat → Int32} {ar : Nat → Int32} {md : Nat} (k i e : Nat) (hmd : md = k + 1) (hk : k < 6) (hp : pi k = nI i) (hi : i < 40) (hd : kd i = nI 4) (hot : ot k = bI true) (he1 : bh i = nI e) : KM D (tyL cI cZ cJ) l yX5_blockEnd wsX5_blockEnd 0 0 [.ref (ad 0)] (wM ad cI cZ le la kd fs sc mi bh mz oo ie mo mp mf mq ms mt mc no lf he pi ot bf ar md) (some (.int (nI e))) (wM ad cI cZ le la kd fs sc mi bh mz oo ie mo mp mf mq ms mt mc no lf he pi ot bf ar md) := by
  refine KM.of (cc := cX5_blockEnd) (nL := 2) (ret := (some .int)) (by decide +kernel) rfl (Nat.le_of_ble_eq_true rfl) ?_
  have i5 : ∀ w ∈ u_ws RX5 TX5 25, w ∈ wsX5_blockEnd := by decide +kernel
  refine v_aload_n 1 rfl dX5_blockEnd_0 rfl rfl ?_
  refine v_get (ci := 5) (C := RX5) (T := TX5) (N := 25) (v := .ref (ad 13)) 4 rfl 0 20 dX5_blockEnd_1 rfl (Nat.le_of_ble_eq_true rfl) i5 (by decide +kernel) rfl rfl ?_
  refine v_aload_n 5 rfl dX5_blockEnd_4 rfl rfl ?_
  refine v_get (ci := 5) (C := RX5) (T := TX5) (N := 25) (v := .int (nI md)) 8 rfl 0 24 dX5_blockEnd_5 rfl (Nat.le_of_ble_eq_true rfl) i5 (by decide +kernel) rfl rfl ?_
  refine v_iconst (v := nI 1) 9 rfl dX5_blockEnd_8 (by decide) ?_
  refine v_isubN (a := md) (b := 1) 10 rfl dX5_blockEnd_9 (by omega) ?_
  refine v_iald (j := md - 1) (v := nI i) 11 rfl 13 0 dX5_blockEnd_10 rfl rfl (by omega) (by decide) (by rw [hmd]; exact hp) ?_
  refine v_istore_n (lv' := [(1, .int (nI i)), (0, .ref (ad 0))]) 12 rfl dX5_blockEnd_11 rfl (Nat.le_of_ble_eq_true rfl) rfl ?_
  refine v_aload_n 13 rfl dX5_blockEnd_12 rfl rfl ?_
  refine v_get (ci := 5) (C := RX5) (T := TX5) (N := 25) (v := .ref (ad 3)) 16 rfl 0 2 dX5_blockEnd_13 rfl (Nat.le_of_ble_eq_true rfl) i5 (by decide +kernel) rfl rfl ?_
  refine v_iload_n 17 rfl dX5_blockEnd_16 rfl rfl ?_
  refine v_iald (j := i) (v := nI 4) 18 rfl 3 0 dX5_blockEnd_17 rfl rfl (by omega) (by decide) hd ?_
  refine v_iconst (v := nI 4) 19 rfl dX5_blockEnd_18 (by decide) ?_
  refine v_icmp_neN (a := 4) (b := 4) 45 22 rfl dX5_blockEnd_19 (by decide) (by omega) (by omega) (fun q => False.elim (by omega)) (fun c19 => ?_)
  refine v_aload_n 23 rfl dX5_blockEnd_22 rfl rfl ?_
  refine v_get (ci := 5) (C := RX5) (T := TX5) (N := 25) (v := .ref (ad 14)) 26 rfl 0 21 dX5_blockEnd_23 rfl (Nat.le_of_ble_eq_true rfl) i5 (by decide +kernel) rfl rfl ?_
  refine v_aload_n 27 rfl dX5_blockEnd_26 rfl rfl ?_
  refine v_get (ci := 5) (C := RX5) (T := TX5) (N := 25) (v := .int (nI md)) 30 rfl 0 24 dX5_blockEnd_27 rfl (Nat.le_of_ble_eq_true rfl) i5 (by decide +kernel) rfl rfl ?_
  refine v_iconst (v := nI 1) 31 rfl dX5_blockEnd_30 (by decide) ?_
  refine v_isubN (a := md) (b := 1) 32 rfl dX5_blockEnd_31 (by omega) ?_
  refine v_zald (j := md - 1) (v := bI true) 33 rfl 14 1 dX5_blockEnd_32 rfl rfl (by omega) (by decide) (by rw [hmd]; exact hot) ?_
  refine v_if_neB (b := true) 45 36 rfl dX5_blockEnd_33 (by decide) (fun c33 => ?_) (fun q => False.elim (by cases q))
  refine v_aload_n 46 rfl dX5_blockEnd_45 rfl rfl ?_
  refine v_get (ci := 5) (C := RX5) (T := TX5) (N := 25) (v := .ref (ad 7)) 49 rfl 0 6 dX5_blockEnd_46 rfl (Nat.le_of_ble_eq_true rfl) i5 (by decide +kernel) rfl rfl ?_
  refine v_iload_n 50 rfl dX5_blockEnd_49 rfl rfl ?_
  refine v_iald (j := i) (v := nI e) 51 rfl 7 0 dX5_blockEnd_50 rfl rfl (by omega) (by decide) he1 ?_
  exact v_iret dX5_blockEnd_51 rfl rfl rfl

set_option maxRecDepth 100000 in
set_option maxHeartbeats 4000000 in
theorem m_blockEndW {D : va_G} {cI cZ cJ : ClassId} {l : Launch} {ad : Nat → Nat} {le : Nat → Int32} {la : Nat → Int32} {kd : Nat → Int32} {fs : Nat → Int32} {sc : Nat → Int32} {mi : Nat → Int32} {bh : Nat → Int32} {mz : Nat} {oo : Nat → Int32} {ie : Nat → Int32} {mo : Nat} {mp : Int32} {mf : Int32} {mq : Int32} {ms : Nat} {mt : Int32} {mc : Int32} {no : Nat → Int32} {lf : Nat → Int32} {he : Nat → Int32} {pi : Nat → Int32} {ot : Nat → Int32} {bf : Nat → Int32} {ar : Nat → Int32} {md : Nat} (k i e : Nat) (hmd : md = k + 1) (hk : k < 6) (hp : pi k = nI i) (hi : i < 40) (hd : kd i = nI 5) (he1 : bh i = nI e) : KM D (tyL cI cZ cJ) l yX5_blockEnd wsX5_blockEnd 0 0 [.ref (ad 0)] (wM ad cI cZ le la kd fs sc mi bh mz oo ie mo mp mf mq ms mt mc no lf he pi ot bf ar md) (some (.int (nI e))) (wM ad cI cZ le la kd fs sc mi bh mz oo ie mo mp mf mq ms mt mc no lf he pi ot bf ar md) := by
  refine KM.of (cc := cX5_blockEnd) (nL := 2) (ret := (some .int)) (by decide +kernel) rfl (Nat.le_of_ble_eq_true rfl) ?_
  have i5 : ∀ w ∈ u_ws RX5 TX5 25, w ∈ wsX5_blockEnd := by decide +kernel
  refine v_aload_n 1 rfl dX5_blockEnd_0 rfl rfl ?_
  refine v_get (ci := 5) (C := RX5) (T := TX5) (N := 25) (v := .ref (ad 13)) 4 rfl 0 20 dX5_blockEnd_1 rfl (Nat.le_of_ble_eq_true rfl) i5 (by decide +kernel) rfl rfl ?_
  refine v_aload_n 5 rfl dX5_blockEnd_4 rfl rfl ?_
  refine v_get (ci := 5) (C := RX5) (T := TX5) (N := 25) (v := .int (nI md)) 8 rfl 0 24 dX5_blockEnd_5 rfl (Nat.le_of_ble_eq_true rfl) i5 (by decide +kernel) rfl rfl ?_
  refine v_iconst (v := nI 1) 9 rfl dX5_blockEnd_8 (by decide) ?_
  refine v_isubN (a := md) (b := 1) 10 rfl dX5_blockEnd_9 (by omega) ?_
  refine v_iald (j := md - 1) (v := nI i) 11 rfl 13 0 dX5_blockEnd_10 rfl rfl (by omega) (by decide) (by rw [hmd]; exact hp) ?_
  refine v_istore_n (lv' := [(1, .int (nI i)), (0, .ref (ad 0))]) 12 rfl dX5_blockEnd_11 rfl (Nat.le_of_ble_eq_true rfl) rfl ?_
  refine v_aload_n 13 rfl dX5_blockEnd_12 rfl rfl ?_
  refine v_get (ci := 5) (C := RX5) (T := TX5) (N := 25) (v := .ref (ad 3)) 16 rfl 0 2 dX5_blockEnd_13 rfl (Nat.le_of_ble_eq_true rfl) i5 (by decide +kernel) rfl rfl ?_
  refine v_iload_n 17 rfl dX5_blockEnd_16 rfl rfl ?_
  refine v_iald (j := i) (v := nI 5) 18 rfl 3 0 dX5_blockEnd_17 rfl rfl (by omega) (by decide) hd ?_
  refine v_iconst (v := nI 4) 19 rfl dX5_blockEnd_18 (by decide) ?_
  refine v_icmp_neN (a := 5) (b := 4) 45 22 rfl dX5_blockEnd_19 (by decide) (by omega) (by omega) (fun c19 => ?_) (fun q => False.elim (by omega))
  refine v_aload_n 46 rfl dX5_blockEnd_45 rfl rfl ?_
  refine v_get (ci := 5) (C := RX5) (T := TX5) (N := 25) (v := .ref (ad 7)) 49 rfl 0 6 dX5_blockEnd_46 rfl (Nat.le_of_ble_eq_true rfl) i5 (by decide +kernel) rfl rfl ?_
  refine v_iload_n 50 rfl dX5_blockEnd_49 rfl rfl ?_
  refine v_iald (j := i) (v := nI e) 51 rfl 7 0 dX5_blockEnd_50 rfl rfl (by omega) (by decide) he1 ?_
  exact v_iret dX5_blockEnd_51 rfl rfl rfl

set_option maxRecDepth 100000 in
set_option maxHeartbeats 4000000 in
theorem m_endedT {D : va_G} {cI cZ cJ : ClassId} {l : Launch} {ad : Nat → Nat} {le : Nat → Int32} {la : Nat → Int32} {kd : Nat → Int32} {fs : Nat → Int32} {sc : Nat → Int32} {mi : Nat → Int32} {bh : Nat → Int32} {mz : Nat} {oo : Nat → Int32} {ie : Nat → Int32} {mo : Nat} {mp : Int32} {mf : Int32} {mq : Int32} {ms : Nat} {mt : Int32} {mc : Int32} {lf : Nat → Int32} {he : Nat → Int32} {pi : Nat → Int32} {ot : Nat → Int32} {bf : Nat → Int32} {ar : Nat → Int32} {md : Nat} (k i A B : Nat) (hmd : md = k + 1) (hk : k < 6) (hp : pi k = nI i) (hi : i < 40) (hA : A < 2 ^ 20) (hB2 : B < 2 ^ 20) (hd : kd i = nI 4) (hot : ot k = bI false) (hB : ∀ v, v < 4 → bf (4 * k + v) = oI (hb B v)) : KM D (tyL cI cZ cJ) l yX5_ended wsX5_ended 0 0 [.ref (ad 0)] (wM ad cI cZ le la kd fs sc mi bh mz oo ie mo mp mf mq ms mt mc (nowOf A) lf he pi ot bf ar md) (some (.int (nI 0))) (wM ad cI cZ le la kd fs sc mi bh mz oo ie mo mp mf mq ms mt mc (nowOf B) lf he pi (upd ot k (bI true)) bf (rowU ar k A) md) := by
  refine KM.of (cc := cX5_ended) (nL := 4) (ret := (some .int)) (by decide +kernel) rfl (Nat.le_of_ble_eq_true rfl) ?_
  have i5 : ∀ w ∈ u_ws RX5 TX5 25, w ∈ wsX5_ended := by decide +kernel
  refine v_aload_n 1 rfl dX5_ended_0 rfl rfl ?_
  refine v_get (ci := 5) (C := RX5) (T := TX5) (N := 25) (v := .int (nI md)) 4 rfl 0 24 dX5_ended_1 rfl (Nat.le_of_ble_eq_true rfl) i5 (by decide +kernel) rfl rfl ?_
  refine v_iconst (v := nI 1) 5 rfl dX5_ended_4 (by decide) ?_
  refine v_isubN (a := md) (b := 1) 6 rfl dX5_ended_5 (by omega) ?_
  refine v_top (v' := nI k) (by rw [hmd, Nat.add_sub_cancel]) ?_
  refine v_istore_n (lv' := [(1, .int (nI k)), (0, .ref (ad 0))]) 7 rfl dX5_ended_6 rfl (Nat.le_of_ble_eq_true rfl) rfl ?_
  refine v_aload_n 8 rfl dX5_ended_7 rfl rfl ?_
  refine v_get (ci := 5) (C := RX5) (T := TX5) (N := 25) (v := .ref (ad 13)) 11 rfl 0 20 dX5_ended_8 rfl (Nat.le_of_ble_eq_true rfl) i5 (by decide +kernel) rfl rfl ?_
  refine v_iload_n 12 rfl dX5_ended_11 rfl rfl ?_
  refine v_iald (j := k) (v := nI i) 13 rfl 13 0 dX5_ended_12 rfl rfl (by omega) (by decide) hp ?_
  refine v_istore_n (lv' := [(2, .int (nI i)), (1, .int (nI k)), (0, .ref (ad 0))]) 14 rfl dX5_ended_13 rfl (Nat.le_of_ble_eq_true rfl) rfl ?_
  refine v_aload_n 15 rfl dX5_ended_14 rfl rfl ?_
  refine v_get (ci := 5) (C := RX5) (T := TX5) (N := 25) (v := .ref (ad 3)) 18 rfl 0 2 dX5_ended_15 rfl (Nat.le_of_ble_eq_true rfl) i5 (by decide +kernel) rfl rfl ?_
  refine v_iload_n 19 rfl dX5_ended_18 rfl rfl ?_
  refine v_iald (j := i) (v := nI 4) 20 rfl 3 0 dX5_ended_19 rfl rfl (by omega) (by decide) hd ?_
  refine v_iconst (v := nI 4) 21 rfl dX5_ended_20 (by decide) ?_
  refine v_icmp_neN (a := 4) (b := 4) 87 24 rfl dX5_ended_21 (by decide) (by omega) (by omega) (fun q => False.elim (by omega)) (fun c21 => ?_)
  refine v_aload_n 25 rfl dX5_ended_24 rfl rfl ?_
  refine v_get (ci := 5) (C := RX5) (T := TX5) (N := 25) (v := .ref (ad 14)) 28 rfl 0 21 dX5_ended_25 rfl (Nat.le_of_ble_eq_true rfl) i5 (by decide +kernel) rfl rfl ?_
  refine v_iload_n 29 rfl dX5_ended_28 rfl rfl ?_
  refine v_zald (j := k) (v := bI false) 30 rfl 14 1 dX5_ended_29 rfl rfl (by omega) (by decide) hot ?_
  refine v_if_neB (b := false) 87 33 rfl dX5_ended_30 (by decide) (fun q => False.elim (by cases q)) (fun c30 => ?_)
  refine v_aload_n 34 rfl dX5_ended_33 rfl rfl ?_
  refine v_get (ci := 5) (C := RX5) (T := TX5) (N := 25) (v := .ref (ad 14)) 37 rfl 0 21 dX5_ended_34 rfl (Nat.le_of_ble_eq_true rfl) i5 (by decide +kernel) rfl rfl ?_
  refine v_iload_n 38 rfl dX5_ended_37 rfl rfl ?_
  refine v_iconst (v := bI true) 39 rfl dX5_ended_38 (by decide) ?_
  refine v_zast (j := k) (b := true) (w' := wM ad cI cZ le la kd fs sc mi bh mz oo ie mo mp mf mq ms mt mc (nowOf A) lf he pi (upd ot k (bI true)) bf ar md) 40 rfl 14 1 dX5_ended_39 rfl rfl (by omega) (by decide) rfl ?_
  refine v_iconst (v := nI 0) 41 rfl dX5_ended_40 (by decide) ?_
  refine v_istore_n (lv' := [(3, .int (nI 0)), (2, .int (nI i)), (1, .int (nI k)), (0, .ref (ad 0))]) 42 rfl dX5_ended_41 rfl (Nat.le_of_ble_eq_true rfl) rfl ?_
  refine v_iload_n 43 rfl dX5_ended_42 rfl rfl ?_
  refine v_iconst (v := nI 4) 44 rfl dX5_ended_43 (by decide) ?_
  refine v_icmp_geN (a := 0) (b := 4) 85 47 rfl dX5_ended_44 (by decide) (by omega) (by omega) (fun q => False.elim (by omega)) (fun c44 => ?_)
  refine v_aload_n 48 rfl dX5_ended_47 rfl rfl ?_
  refine v_get (ci := 5) (C := RX5) (T := TX5) (N := 25) (v := .ref (ad 16)) 51 rfl 0 23 dX5_ended_48 rfl (Nat.le_of_ble_eq_true rfl) i5 (by decide +kernel) rfl rfl ?_
  refine v_iconst (v := nI 4) 52 rfl dX5_ended_51 (by decide) ?_
  refine v_iload_n 53 rfl dX5_ended_52 rfl rfl ?_
  refine v_imulN (a := 4) (b := k) 54 rfl dX5_ended_53 ?_
  refine v_iload_n 55 rfl dX5_ended_54 rfl rfl ?_
  refine v_iaddN (a := 4 * k) (b := 0) 56 rfl dX5_ended_55 ?_
  refine v_aload_n 57 rfl dX5_ended_56 rfl rfl ?_
  refine v_get (ci := 5) (C := RX5) (T := TX5) (N := 25) (v := .ref (ad 10)) 60 rfl 0 17 dX5_ended_57 rfl (Nat.le_of_ble_eq_true rfl) i5 (by decide +kernel) rfl rfl ?_
  refine v_iload_n 61 rfl dX5_ended_60 rfl rfl ?_
  refine v_iald (j := 0) (v := oI (hb A 0)) 62 rfl 10 0 dX5_ended_61 rfl rfl (by omega) (by decide) (by simp [upd, nowOf]) ?_
  refine v_iast (j := 4 * k) (w' := wM ad cI cZ le la kd fs sc mi bh mz oo ie mo mp mf mq ms mt mc (nowOf A) lf he pi (upd ot k (bI true)) bf (upd ar (4 * k) (oI (hb A 0))) md) 63 rfl 16 0 dX5_ended_62 rfl rfl (by omega) (by decide) rfl ?_
  refine v_aload_n 64 rfl dX5_ended_63 rfl rfl ?_
  refine v_get (ci := 5) (C := RX5) (T := TX5) (N := 25) (v := .ref (ad 10)) 67 rfl 0 17 dX5_ended_64 rfl (Nat.le_of_ble_eq_true rfl) i5 (by decide +kernel) rfl rfl ?_
  refine v_iload_n 68 rfl dX5_ended_67 rfl rfl ?_
  refine v_aload_n 69 rfl dX5_ended_68 rfl rfl ?_
  refine v_get (ci := 5) (C := RX5) (T := TX5) (N := 25) (v := .ref (ad 15)) 72 rfl 0 22 dX5_ended_69 rfl (Nat.le_of_ble_eq_true rfl) i5 (by decide +kernel) rfl rfl ?_
  refine v_iconst (v := nI 4) 73 rfl dX5_ended_72 (by decide) ?_
  refine v_iload_n 74 rfl dX5_ended_73 rfl rfl ?_
  refine v_imulN (a := 4) (b := k) 75 rfl dX5_ended_74 ?_
  refine v_iload_n 76 rfl dX5_ended_75 rfl rfl ?_
  refine v_iaddN (a := 4 * k) (b := 0) 77 rfl dX5_ended_76 ?_
  refine v_iald (j := 4 * k) (v := oI (hb B 0)) 78 rfl 15 0 dX5_ended_77 rfl rfl (by omega) (by decide) (hB 0 (by omega)) ?_
  refine v_iast (j := 0) (w' := wM ad cI cZ le la kd fs sc mi bh mz oo ie mo mp mf mq ms mt mc (upd (nowOf A) 0 (oI (hb B 0))) lf he pi (upd ot k (bI true)) bf (upd ar (4 * k) (oI (hb A 0))) md) 79 rfl 10 0 dX5_ended_78 rfl rfl (by omega) (by decide) rfl ?_
  refine v_iinc (v := nI 1) (lv' := [(3, .int (nI 1)), (2, .int (nI i)), (1, .int (nI k)), (0, .ref (ad 0))]) 82 rfl dX5_ended_79 0 rfl (nI_add _ _) (Nat.le_of_ble_eq_true rfl) rfl ?_
  refine v_goto 42 dX5_ended_82 (by decide) ?_
  refine v_iload_n 43 rfl dX5_ended_42 rfl rfl ?_
  refine v_iconst (v := nI 4) 44 rfl dX5_ended_43 (by decide) ?_
  refine v_icmp_geN (a := 1) (b := 4) 85 47 rfl dX5_ended_44 (by decide) (by omega) (by omega) (fun q => False.elim (by omega)) (fun c44 => ?_)
  refine v_aload_n 48 rfl dX5_ended_47 rfl rfl ?_
  refine v_get (ci := 5) (C := RX5) (T := TX5) (N := 25) (v := .ref (ad 16)) 51 rfl 0 23 dX5_ended_48 rfl (Nat.le_of_ble_eq_true rfl) i5 (by decide +kernel) rfl rfl ?_
  refine v_iconst (v := nI 4) 52 rfl dX5_ended_51 (by decide) ?_
  refine v_iload_n 53 rfl dX5_ended_52 rfl rfl ?_
  refine v_imulN (a := 4) (b := k) 54 rfl dX5_ended_53 ?_
  refine v_iload_n 55 rfl dX5_ended_54 rfl rfl ?_
  refine v_iaddN (a := 4 * k) (b := 1) 56 rfl dX5_ended_55 ?_
  refine v_aload_n 57 rfl dX5_ended_56 rfl rfl ?_
  refine v_get (ci := 5) (C := RX5) (T := TX5) (N := 25) (v := .ref (ad 10)) 60 rfl 0 17 dX5_ended_57 rfl (Nat.le_of_ble_eq_true rfl) i5 (by decide +kernel) rfl rfl ?_
  refine v_iload_n 61 rfl dX5_ended_60 rfl rfl ?_
  refine v_iald (j := 1) (v := oI (hb A 1)) 62 rfl 10 0 dX5_ended_61 rfl rfl (by omega) (by decide) (by simp [upd, nowOf]) ?_
  refine v_iast (j := (4 * k) + 1) (w' := wM ad cI cZ le la kd fs sc mi bh mz oo ie mo mp mf mq ms mt mc (upd (nowOf A) 0 (oI (hb B 0))) lf he pi (upd ot k (bI true)) bf (upd (upd ar (4 * k) (oI (hb A 0))) ((4 * k) + 1) (oI (hb A 1))) md) 63 rfl 16 0 dX5_ended_62 rfl rfl (by omega) (by decide) rfl ?_
  refine v_aload_n 64 rfl dX5_ended_63 rfl rfl ?_
  refine v_get (ci := 5) (C := RX5) (T := TX5) (N := 25) (v := .ref (ad 10)) 67 rfl 0 17 dX5_ended_64 rfl (Nat.le_of_ble_eq_true rfl) i5 (by decide +kernel) rfl rfl ?_
  refine v_iload_n 68 rfl dX5_ended_67 rfl rfl ?_
  refine v_aload_n 69 rfl dX5_ended_68 rfl rfl ?_
  refine v_get (ci := 5) (C := RX5) (T := TX5) (N := 25) (v := .ref (ad 15)) 72 rfl 0 22 dX5_ended_69 rfl (Nat.le_of_ble_eq_true rfl) i5 (by decide +kernel) rfl rfl ?_
  refine v_iconst (v := nI 4) 73 rfl dX5_ended_72 (by decide) ?_
  refine v_iload_n 74 rfl dX5_ended_73 rfl rfl ?_
  refine v_imulN (a := 4) (b := k) 75 rfl dX5_ended_74 ?_
  refine v_iload_n 76 rfl dX5_ended_75 rfl rfl ?_
  refine v_iaddN (a := 4 * k) (b := 1) 77 rfl dX5_ended_76 ?_
  refine v_iald (j := (4 * k) + 1) (v := oI (hb B 1)) 78 rfl 15 0 dX5_ended_77 rfl rfl (by omega) (by decide) (hB 1 (by omega)) ?_
  refine v_iast (j := 1) (w' := wM ad cI cZ le la kd fs sc mi bh mz oo ie mo mp mf mq ms mt mc (upd (upd (nowOf A) 0 (oI (hb B 0))) 1 (oI (hb B 1))) lf he pi (upd ot k (bI true)) bf (upd (upd ar (4 * k) (oI (hb A 0))) ((4 * k) + 1) (oI (hb A 1))) md) 79 rfl 10 0 dX5_ended_78 rfl rfl (by omega) (by decide) rfl ?_
  refine v_iinc (v := nI 2) (lv' := [(3, .int (nI 2)), (2, .int (nI i)), (1, .int (nI k)), (0, .ref (ad 0))]) 82 rfl dX5_ended_79 0 rfl (nI_add _ _) (Nat.le_of_ble_eq_true rfl) rfl ?_
  refine v_goto 42 dX5_ended_82 (by decide) ?_
  refine v_iload_n 43 rfl dX5_ended_42 rfl rfl ?_
  refine v_iconst (v := nI 4) 44 rfl dX5_ended_43 (by decide) ?_
  refine v_icmp_geN (a := 2) (b := 4) 85 47 rfl dX5_ended_44 (by decide) (by omega) (by omega) (fun q => False.elim (by omega)) (fun c44 => ?_)
  refine v_aload_n 48 rfl dX5_ended_47 rfl rfl ?_
  refine v_get (ci := 5) (C := RX5) (T := TX5) (N := 25) (v := .ref (ad 16)) 51 rfl 0 23 dX5_ended_48 rfl (Nat.le_of_ble_eq_true rfl) i5 (by decide +kernel) rfl rfl ?_
  refine v_iconst (v := nI 4) 52 rfl dX5_ended_51 (by decide) ?_
  refine v_iload_n 53 rfl dX5_ended_52 rfl rfl ?_
  refine v_imulN (a := 4) (b := k) 54 rfl dX5_ended_53 ?_
  refine v_iload_n 55 rfl dX5_ended_54 rfl rfl ?_
  refine v_iaddN (a := 4 * k) (b := 2) 56 rfl dX5_ended_55 ?_
  refine v_aload_n 57 rfl dX5_ended_56 rfl rfl ?_
  refine v_get (ci := 5) (C := RX5) (T := TX5) (N := 25) (v := .ref (ad 10)) 60 rfl 0 17 dX5_ended_57 rfl (Nat.le_of_ble_eq_true rfl) i5 (by decide +kernel) rfl rfl ?_
  refine v_iload_n 61 rfl dX5_ended_60 rfl rfl ?_
  refine v_iald (j := 2) (v := oI (hb A 2)) 62 rfl 10 0 dX5_ended_61 rfl rfl (by omega) (by decide) (by simp [upd, nowOf]) ?_
  refine v_iast (j := (4 * k) + 2) (w' := wM ad cI cZ le la kd fs sc mi bh mz oo ie mo mp mf mq ms mt mc (upd (upd (nowOf A) 0 (oI (hb B 0))) 1 (oI (hb B 1))) lf he pi (upd ot k (bI true)) bf (upd (upd (upd ar (4 * k) (oI (hb A 0))) ((4 * k) + 1) (oI (hb A 1))) ((4 * k) + 2) (oI (hb A 2))) md) 63 rfl 16 0 dX5_ended_62 rfl rfl (by omega) (by decide) rfl ?_
  refine v_aload_n 64 rfl dX5_ended_63 rfl rfl ?_
  refine v_get (ci := 5) (C := RX5) (T := TX5) (N := 25) (v := .ref (ad 10)) 67 rfl 0 17 dX5_ended_64 rfl (Nat.le_of_ble_eq_true rfl) i5 (by decide +kernel) rfl rfl ?_
  refine v_iload_n 68 rfl dX5_ended_67 rfl rfl ?_
  refine v_aload_n 69 rfl dX5_ended_68 rfl rfl ?_
  refine v_get (ci := 5) (C := RX5) (T := TX5) (N := 25) (v := .ref (ad 15)) 72 rfl 0 22 dX5_ended_69 rfl (Nat.le_of_ble_eq_true rfl) i5 (by decide +kernel) rfl rfl ?_
  refine v_iconst (v := nI 4) 73 rfl dX5_ended_72 (by decide) ?_
  refine v_iload_n 74 rfl dX5_ended_73 rfl rfl ?_
  refine v_imulN (a := 4) (b := k) 75 rfl dX5_ended_74 ?_
  refine v_iload_n 76 rfl dX5_ended_75 rfl rfl ?_
  refine v_iaddN (a := 4 * k) (b := 2) 77 rfl dX5_ended_76 ?_
  refine v_iald (j := (4 * k) + 2) (v := oI (hb B 2)) 78 rfl 15 0 dX5_ended_77 rfl rfl (by omega) (by decide) (hB 2 (by omega)) ?_
  refine v_iast (j := 2) (w' := wM ad cI cZ le la kd fs sc mi bh mz oo ie mo mp mf mq ms mt mc (upd (upd (upd (nowOf A) 0 (oI (hb B 0))) 1 (oI (hb B 1))) 2 (oI (hb B 2))) lf he pi (upd ot k (bI true)) bf (upd (upd (upd ar (4 * k) (oI (hb A 0))) ((4 * k) + 1) (oI (hb A 1))) ((4 * k) + 2) (oI (hb A 2))) md) 79 rfl 10 0 dX5_ended_78 rfl rfl (by omega) (by decide) rfl ?_
  refine v_iinc (v := nI 3) (lv' := [(3, .int (nI 3)), (2, .int (nI i)), (1, .int (nI k)), (0, .ref (ad 0))]) 82 rfl dX5_ended_79 0 rfl (nI_add _ _) (Nat.le_of_ble_eq_true rfl) rfl ?_
  refine v_goto 42 dX5_ended_82 (by decide) ?_
  refine v_iload_n 43 rfl dX5_ended_42 rfl rfl ?_
  refine v_iconst (v := nI 4) 44 rfl dX5_ended_43 (by decide) ?_
  refine v_icmp_geN (a := 3) (b := 4) 85 47 rfl dX5_ended_44 (by decide) (by omega) (by omega) (fun q => False.elim (by omega)) (fun c44 => ?_)
  refine v_aload_n 48 rfl dX5_ended_47 rfl rfl ?_
  refine v_get (ci := 5) (C := RX5) (T := TX5) (N := 25) (v := .ref (ad 16)) 51 rfl 0 23 dX5_ended_48 rfl (Nat.le_of_ble_eq_true rfl) i5 (by decide +kernel) rfl rfl ?_
  refine v_iconst (v := nI 4) 52 rfl dX5_ended_51 (by decide) ?_
  refine v_iload_n 53 rfl dX5_ended_52 rfl rfl ?_
  refine v_imulN (a := 4) (b := k) 54 rfl dX5_ended_53 ?_
  refine v_iload_n 55 rfl dX5_ended_54 rfl rfl ?_
  refine v_iaddN (a := 4 * k) (b := 3) 56 rfl dX5_ended_55 ?_
  refine v_aload_n 57 rfl dX5_ended_56 rfl rfl ?_
  refine v_get (ci := 5) (C := RX5) (T := TX5) (N := 25) (v := .ref (ad 10)) 60 rfl 0 17 dX5_ended_57 rfl (Nat.le_of_ble_eq_true rfl) i5 (by decide +kernel) rfl rfl ?_
  refine v_iload_n 61 rfl dX5_ended_60 rfl rfl ?_
  refine v_iald (j := 3) (v := oI (hb A 3)) 62 rfl 10 0 dX5_ended_61 rfl rfl (by omega) (by decide) (by simp [upd, nowOf]) ?_
  refine v_iast (j := (4 * k) + 3) (w' := wM ad cI cZ le la kd fs sc mi bh mz oo ie mo mp mf mq ms mt mc (upd (upd (upd (nowOf A) 0 (oI (hb B 0))) 1 (oI (hb B 1))) 2 (oI (hb B 2))) lf he pi (upd ot k (bI true)) bf (upd (upd (upd (upd ar (4 * k) (oI (hb A 0))) ((4 * k) + 1) (oI (hb A 1))) ((4 * k) + 2) (oI (hb A 2))) ((4 * k) + 3) (oI (hb A 3))) md) 63 rfl 16 0 dX5_ended_62 rfl rfl (by omega) (by decide) rfl ?_
  refine v_aload_n 64 rfl dX5_ended_63 rfl rfl ?_
  refine v_get (ci := 5) (C := RX5) (T := TX5) (N := 25) (v := .ref (ad 10)) 67 rfl 0 17 dX5_ended_64 rfl (Nat.le_of_ble_eq_true rfl) i5 (by decide +kernel) rfl rfl ?_
  refine v_iload_n 68 rfl dX5_ended_67 rfl rfl ?_
  refine v_aload_n 69 rfl dX5_ended_68 rfl rfl ?_
  refine v_get (ci := 5) (C := RX5) (T := TX5) (N := 25) (v := .ref (ad 15)) 72 rfl 0 22 dX5_ended_69 rfl (Nat.le_of_ble_eq_true rfl) i5 (by decide +kernel) rfl rfl ?_
  refine v_iconst (v := nI 4) 73 rfl dX5_ended_72 (by decide) ?_
  refine v_iload_n 74 rfl dX5_ended_73 rfl rfl ?_
  refine v_imulN (a := 4) (b := k) 75 rfl dX5_ended_74 ?_
  refine v_iload_n 76 rfl dX5_ended_75 rfl rfl ?_
  refine v_iaddN (a := 4 * k) (b := 3) 77 rfl dX5_ended_76 ?_
  refine v_iald (j := (4 * k) + 3) (v := oI (hb B 3)) 78 rfl 15 0 dX5_ended_77 rfl rfl (by omega) (by decide) (hB 3 (by omega)) ?_
  refine v_iast (j := 3) (w' := wM ad cI cZ le la kd fs sc mi bh mz oo ie mo mp mf mq ms mt mc (upd (upd (upd (upd (nowOf A) 0 (oI (hb B 0))) 1 (oI (hb B 1))) 2 (oI (hb B 2))) 3 (oI (hb B 3))) lf he pi (upd ot k (bI true)) bf (upd (upd (upd (upd ar (4 * k) (oI (hb A 0))) ((4 * k) + 1) (oI (hb A 1))) ((4 * k) + 2) (oI (hb A 2))) ((4 * k) + 3) (oI (hb A 3))) md) 79 rfl 10 0 dX5_ended_78 rfl rfl (by omega) (by decide) rfl ?_
  refine v_iinc (v := nI 4) (lv' := [(3, .int (nI 4)), (2, .int (nI i)), (1, .int (nI k)), (0, .ref (ad 0))]) 82 rfl dX5_ended_79 0 rfl (nI_add _ _) (Nat.le_of_ble_eq_true rfl) rfl ?_
  refine v_goto 42 dX5_ended_82 (by decide) ?_
  refine v_iload_n 43 rfl dX5_ended_42 rfl rfl ?_
  refine v_iconst (v := nI 4) 44 rfl dX5_ended_43 (by decide) ?_
  refine v_icmp_geN (a := 4) (b := 4) 85 47 rfl dX5_ended_44 (by decide) (by omega) (by omega) (fun c44 => ?_) (fun q => False.elim (by omega))
  refine v_w (w' := wM ad cI cZ le la kd fs sc mi bh mz oo ie mo mp mf mq ms mt mc (nowOf B) lf he pi (upd ot k (bI true)) bf (rowU ar k A) md) (by rw [row4, now4 (fun j hj => nowOf_4 hj) B rfl rfl rfl rfl]) ?_
  refine v_iconst (v := nI 0) 86 rfl dX5_ended_85 (by decide) ?_
  exact v_iret dX5_ended_86 rfl rfl rfl

set_option maxRecDepth 100000 in
set_option maxHeartbeats 4000000 in
theorem m_endedE {D : va_G} {cI cZ cJ : ClassId} {l : Launch} {ad : Nat → Nat} {le : Nat → Int32} {la : Nat → Int32} {kd : Nat → Int32} {fs : Nat → Int32} {sc : Nat → Int32} {mi : Nat → Int32} {bh : Nat → Int32} {mz : Nat} {oo : Nat → Int32} {ie : Nat → Int32} {mo : Nat} {mp : Int32} {mf : Int32} {mq : Int32} {ms : Nat} {mt : Int32} {mc : Int32} {lf : Nat → Int32} {he : Nat → Int32} {pi : Nat → Int32} {ot : Nat → Int32} {bf : Nat → Int32} {ar : Nat → Int32} {md : Nat} (k i A B : Nat) (hmd : md = k + 1) (hk : k < 6) (hp : pi k = nI i) (hi : i < 40) (hA : A < 2 ^ 20) (hB2 : B < 2 ^ 20) (hd : kd i = nI 4) (hot : ot k = bI true) (hB : ∀ v, v < 4 → ar (4 * k + v) = oI (hb B v)) : KM D (tyL cI cZ cJ) l yX5_ended wsX5_ended 1 23 [.ref (ad 0)] (wM ad cI cZ le la kd fs sc mi bh mz oo ie mo mp mf mq ms mt mc (nowOf A) lf he pi ot bf ar md) (some (.int (nI (if A = B then 0 else 5)))) (wM ad cI cZ le la kd fs sc mi bh mz oo ie mo (nI i) mf mq ms mt mc (nowOf A) lf he pi ot bf ar k) := by
  refine KM.of (cc := cX5_ended) (nL := 4) (ret := (some .int)) (by decide +kernel) rfl (Nat.le_of_ble_eq_true rfl) ?_
  have i5 : ∀ w ∈ u_ws RX5 TX5 25, w ∈ wsX5_ended := by decide +kernel
  refine v_aload_n 1 rfl dX5_ended_0 rfl rfl ?_
  refine v_get (ci := 5) (C := RX5) (T := TX5) (N := 25) (v := .int (nI md)) 4 rfl 0 24 dX5_ended_1 rfl (Nat.le_of_ble_eq_true rfl) i5 (by decide +kernel) rfl rfl ?_
  refine v_iconst (v := nI 1) 5 rfl dX5_ended_4 (by decide) ?_
  refine v_isubN (a := md) (b := 1) 6 rfl dX5_ended_5 (by omega) ?_
  refine v_top (v' := nI k) (by rw [hmd, Nat.add_sub_cancel]) ?_
  refine v_istore_n (lv' := [(1, .int (nI k)), (0, .ref (ad 0))]) 7 rfl dX5_ended_6 rfl (Nat.le_of_ble_eq_true rfl) rfl ?_
  refine v_aload_n 8 rfl dX5_ended_7 rfl rfl ?_
  refine v_get (ci := 5) (C := RX5) (T := TX5) (N := 25) (v := .ref (ad 13)) 11 rfl 0 20 dX5_ended_8 rfl (Nat.le_of_ble_eq_true rfl) i5 (by decide +kernel) rfl rfl ?_
  refine v_iload_n 12 rfl dX5_ended_11 rfl rfl ?_
  refine v_iald (j := k) (v := nI i) 13 rfl 13 0 dX5_ended_12 rfl rfl (by omega) (by decide) hp ?_
  refine v_istore_n (lv' := [(2, .int (nI i)), (1, .int (nI k)), (0, .ref (ad 0))]) 14 rfl dX5_ended_13 rfl (Nat.le_of_ble_eq_true rfl) rfl ?_
  refine v_aload_n 15 rfl dX5_ended_14 rfl rfl ?_
  refine v_get (ci := 5) (C := RX5) (T := TX5) (N := 25) (v := .ref (ad 3)) 18 rfl 0 2 dX5_ended_15 rfl (Nat.le_of_ble_eq_true rfl) i5 (by decide +kernel) rfl rfl ?_
  refine v_iload_n 19 rfl dX5_ended_18 rfl rfl ?_
  refine v_iald (j := i) (v := nI 4) 20 rfl 3 0 dX5_ended_19 rfl rfl (by omega) (by decide) hd ?_
  refine v_iconst (v := nI 4) 21 rfl dX5_ended_20 (by decide) ?_
  refine v_icmp_neN (a := 4) (b := 4) 87 24 rfl dX5_ended_21 (by decide) (by omega) (by omega) (fun q => False.elim (by omega)) (fun c21 => ?_)
  refine v_aload_n 25 rfl dX5_ended_24 rfl rfl ?_
  refine v_get (ci := 5) (C := RX5) (T := TX5) (N := 25) (v := .ref (ad 14)) 28 rfl 0 21 dX5_ended_25 rfl (Nat.le_of_ble_eq_true rfl) i5 (by decide +kernel) rfl rfl ?_
  refine v_iload_n 29 rfl dX5_ended_28 rfl rfl ?_
  refine v_zald (j := k) (v := bI true) 30 rfl 14 1 dX5_ended_29 rfl rfl (by omega) (by decide) hot ?_
  refine v_if_neB (b := true) 87 33 rfl dX5_ended_30 (by decide) (fun c30 => ?_) (fun q => False.elim (by cases q))
  refine v_aload_n 88 rfl dX5_ended_87 rfl rfl ?_
  refine v_iload_n 89 rfl dX5_ended_88 rfl rfl ?_
  refine v_put (ci := 5) (C := RX5) (T := TX5) (ty0 := tyX5) (N := 25) (ty := .int) (w' := wM ad cI cZ le la kd fs sc mi bh mz oo ie mo mp mf mq ms mt mc (nowOf A) lf he pi ot bf ar k) 92 rfl 0 24 dX5_ended_89 rfl (Nat.le_of_ble_eq_true rfl) i5 tyX5_ok nmX5 (by decide +kernel) rfl (by decide +kernel) rfl rfl rfl (Nat.le_of_ble_eq_true rfl) rfl ?_
  refine v_aload_n 93 rfl dX5_ended_92 rfl rfl ?_
  refine v_iload_n 94 rfl dX5_ended_93 rfl rfl ?_
  refine v_put (ci := 5) (C := RX5) (T := TX5) (ty0 := tyX5) (N := 25) (ty := .int) (w' := wM ad cI cZ le la kd fs sc mi bh mz oo ie mo (nI i) mf mq ms mt mc (nowOf A) lf he pi ot bf ar k) 97 rfl 0 11 dX5_ended_94 rfl (Nat.le_of_ble_eq_true rfl) i5 tyX5_ok nmX5 (by decide +kernel) rfl (by decide +kernel) rfl rfl rfl (Nat.le_of_ble_eq_true rfl) rfl ?_
  refine v_aload_n 98 rfl dX5_ended_97 rfl rfl ?_
  refine v_get (ci := 5) (C := RX5) (T := TX5) (N := 25) (v := .ref (ad 3)) 101 rfl 0 2 dX5_ended_98 rfl (Nat.le_of_ble_eq_true rfl) i5 (by decide +kernel) rfl rfl ?_
  refine v_iload_n 102 rfl dX5_ended_101 rfl rfl ?_
  refine v_iald (j := i) (v := nI 4) 103 rfl 3 0 dX5_ended_102 rfl rfl (by omega) (by decide) hd ?_
  refine v_iconst (v := nI 4) 104 rfl dX5_ended_103 (by decide) ?_
  refine v_icmp_neN (a := 4) (b := 4) 127 107 rfl dX5_ended_104 (by decide) (by omega) (by omega) (fun q => False.elim (by omega)) (fun c104 => ?_)
  refine v_aload_n 108 rfl dX5_ended_107 rfl rfl ?_
  refine v_aload_n 109 rfl dX5_ended_108 rfl rfl ?_
  refine v_get (ci := 5) (C := RX5) (T := TX5) (N := 25) (v := .ref (ad 16)) 112 rfl 0 23 dX5_ended_109 rfl (Nat.le_of_ble_eq_true rfl) i5 (by decide +kernel) rfl rfl ?_
  refine v_iconst (v := nI 4) 113 rfl dX5_ended_112 (by decide) ?_
  refine v_iload_n 114 rfl dX5_ended_113 rfl rfl ?_
  refine v_imulN (a := 4) (b := k) 115 rfl dX5_ended_114 ?_
  refine v_callF (n := 2) (q0 := 0) (ci := 5) 118 rfl (m_sameA k A B hk hA hB2 hB) gX5_ended_X5_same rfl (by decide +kernel) rfl ⟨(Nat.le_of_ble_eq_true rfl), (Nat.le_of_ble_eq_true rfl)⟩ rfl (Nat.le_of_ble_eq_true rfl) rfl rfl rfl dX5_ended_115 ⟨Nat.zero_le _, Nat.zero_le _⟩ rfl ?_
  refine v_st (st' := [.int (bI (decide (A = B)))]) rfl ?_
  refine v_if_eqB (b := decide (A = B)) 125 121 rfl dX5_ended_118 (by decide) (fun c118 => ?_) (fun c118 => ?_)
  · refine v_iconst (v := nI 5) 126 rfl dX5_ended_125 (by decide) ?_
    exact v_iret dX5_ended_126 rfl (by simp_all) rfl
  · refine v_iconst (v := nI 0) 122 rfl dX5_ended_121 (by decide) ?_
    refine v_goto 126 dX5_ended_122 (by decide) ?_
    exact v_iret dX5_ended_126 rfl (by simp_all) rfl

set_option maxRecDepth 100000 in
set_option maxHeartbeats 4000000 in
theorem m_endedW {D : va_G} {cI cZ cJ : ClassId} {l : Launch} {ad : Nat → Nat} {le : Nat → Int32} {la : Nat → Int32} {kd : Nat → Int32} {fs : Nat → Int32} {sc : Nat → Int32} {mi : Nat → Int32} {bh : Nat → Int32} {mz : Nat} {oo : Nat → Int32} {ie : Nat → Int32} {mo : Nat} {mp : Int32} {mf : Int32} {mq : Int32} {ms : Nat} {mt : Int32} {mc : Int32} {lf : Nat → Int32} {he : Nat → Int32} {pi : Nat → Int32} {ot : Nat → Int32} {bf : Nat → Int32} {ar : Nat → Int32} {md : Nat} (k i A B : Nat) (hmd : md = k + 1) (hk : k < 6) (hp : pi k = nI i) (hi : i < 40) (hA : A < 2 ^ 20) (hB2 : B < 2 ^ 20) (hd : kd i = nI 5) (hB : ∀ v, v < 4 → bf (4 * k + v) = oI (hb B v)) : KM D (tyL cI cZ cJ) l yX5_ended wsX5_ended 1 23 [.ref (ad 0)] (wM ad cI cZ le la kd fs sc mi bh mz oo ie mo mp mf mq ms mt mc (nowOf A) lf he pi ot bf ar md) (some (.int (nI (if A = B then 0 else 6)))) (wM ad cI cZ le la kd fs sc mi bh mz oo ie mo (nI i) mf mq ms mt mc (nowOf A) lf he pi ot bf ar k) := by
  refine KM.of (cc := cX5_ended) (nL := 4) (ret := (some .int)) (by decide +kernel) rfl (Nat.le_of_ble_eq_true rfl) ?_
  have i5 : ∀ w ∈ u_ws RX5 TX5 25, w ∈ wsX5_ended := by decide +kernel
  refine v_aload_n 1 rfl dX5_ended_0 rfl rfl ?_
  refine v_get (ci := 5) (C := RX5) (T := TX5) (N := 25) (v := .int (nI md)) 4 rfl 0 24 dX5_ended_1 rfl (Nat.le_of_ble_eq_true rfl) i5 (by decide +kernel) rfl rfl ?_
  refine v_iconst (v := nI 1) 5 rfl dX5_ended_4 (by decide) ?_
  refine v_isubN (a := md) (b := 1) 6 rfl dX5_ended_5 (by omega) ?_
  refine v_top (v' := nI k) (by rw [hmd, Nat.add_sub_cancel]) ?_
  refine v_istore_n (lv' := [(1, .int (nI k)), (0, .ref (ad 0))]) 7 rfl dX5_ended_6 rfl (Nat.le_of_ble_eq_true rfl) rfl ?_
  refine v_aload_n 8 rfl dX5_ended_7 rfl rfl ?_
  refine v_get (ci := 5) (C := RX5) (T := TX5) (N := 25) (v := .ref (ad 13)) 11 rfl 0 20 dX5_ended_8 rfl (Nat.le_of_ble_eq_true rfl) i5 (by decide +kernel) rfl rfl ?_
  refine v_iload_n 12 rfl dX5_ended_11 rfl rfl ?_
  refine v_iald (j := k) (v := nI i) 13 rfl 13 0 dX5_ended_12 rfl rfl (by omega) (by decide) hp ?_
  refine v_istore_n (lv' := [(2, .int (nI i)), (1, .int (nI k)), (0, .ref (ad 0))]) 14 rfl dX5_ended_13 rfl (Nat.le_of_ble_eq_true rfl) rfl ?_
  refine v_aload_n 15 rfl dX5_ended_14 rfl rfl ?_
  refine v_get (ci := 5) (C := RX5) (T := TX5) (N := 25) (v := .ref (ad 3)) 18 rfl 0 2 dX5_ended_15 rfl (Nat.le_of_ble_eq_true rfl) i5 (by decide +kernel) rfl rfl ?_
  refine v_iload_n 19 rfl dX5_ended_18 rfl rfl ?_
  refine v_iald (j := i) (v := nI 5) 20 rfl 3 0 dX5_ended_19 rfl rfl (by omega) (by decide) hd ?_
  refine v_iconst (v := nI 4) 21 rfl dX5_ended_20 (by decide) ?_
  refine v_icmp_neN (a := 5) (b := 4) 87 24 rfl dX5_ended_21 (by decide) (by omega) (by omega) (fun c21 => ?_) (fun q => False.elim (by omega))
  refine v_aload_n 88 rfl dX5_ended_87 rfl rfl ?_
  refine v_iload_n 89 rfl dX5_ended_88 rfl rfl ?_
  refine v_put (ci := 5) (C := RX5) (T := TX5) (ty0 := tyX5) (N := 25) (ty := .int) (w' := wM ad cI cZ le la kd fs sc mi bh mz oo ie mo mp mf mq ms mt mc (nowOf A) lf he pi ot bf ar k) 92 rfl 0 24 dX5_ended_89 rfl (Nat.le_of_ble_eq_true rfl) i5 tyX5_ok nmX5 (by decide +kernel) rfl (by decide +kernel) rfl rfl rfl (Nat.le_of_ble_eq_true rfl) rfl ?_
  refine v_aload_n 93 rfl dX5_ended_92 rfl rfl ?_
  refine v_iload_n 94 rfl dX5_ended_93 rfl rfl ?_
  refine v_put (ci := 5) (C := RX5) (T := TX5) (ty0 := tyX5) (N := 25) (ty := .int) (w' := wM ad cI cZ le la kd fs sc mi bh mz oo ie mo (nI i) mf mq ms mt mc (nowOf A) lf he pi ot bf ar k) 97 rfl 0 11 dX5_ended_94 rfl (Nat.le_of_ble_eq_true rfl) i5 tyX5_ok nmX5 (by decide +kernel) rfl (by decide +kernel) rfl rfl rfl (Nat.le_of_ble_eq_true rfl) rfl ?_
  refine v_aload_n 98 rfl dX5_ended_97 rfl rfl ?_
  refine v_get (ci := 5) (C := RX5) (T := TX5) (N := 25) (v := .ref (ad 3)) 101 rfl 0 2 dX5_ended_98 rfl (Nat.le_of_ble_eq_true rfl) i5 (by decide +kernel) rfl rfl ?_
  refine v_iload_n 102 rfl dX5_ended_101 rfl rfl ?_
  refine v_iald (j := i) (v := nI 5) 103 rfl 3 0 dX5_ended_102 rfl rfl (by omega) (by decide) hd ?_
  refine v_iconst (v := nI 4) 104 rfl dX5_ended_103 (by decide) ?_
  refine v_icmp_neN (a := 5) (b := 4) 127 107 rfl dX5_ended_104 (by decide) (by omega) (by omega) (fun c104 => ?_) (fun q => False.elim (by omega))
  refine v_aload_n 128 rfl dX5_ended_127 rfl rfl ?_
  refine v_aload_n 129 rfl dX5_ended_128 rfl rfl ?_
  refine v_get (ci := 5) (C := RX5) (T := TX5) (N := 25) (v := .ref (ad 15)) 132 rfl 0 22 dX5_ended_129 rfl (Nat.le_of_ble_eq_true rfl) i5 (by decide +kernel) rfl rfl ?_
  refine v_iconst (v := nI 4) 133 rfl dX5_ended_132 (by decide) ?_
  refine v_iload_n 134 rfl dX5_ended_133 rfl rfl ?_
  refine v_imulN (a := 4) (b := k) 135 rfl dX5_ended_134 ?_
  refine v_callF (n := 2) (q0 := 0) (ci := 5) 138 rfl (m_sameB k A B hk hA hB2 hB) gX5_ended_X5_same rfl (by decide +kernel) rfl ⟨(Nat.le_of_ble_eq_true rfl), (Nat.le_of_ble_eq_true rfl)⟩ rfl (Nat.le_of_ble_eq_true rfl) rfl rfl rfl dX5_ended_135 ⟨Nat.zero_le _, Nat.zero_le _⟩ rfl ?_
  refine v_st (st' := [.int (bI (decide (A = B)))]) rfl ?_
  refine v_if_eqB (b := decide (A = B)) 145 141 rfl dX5_ended_138 (by decide) (fun c138 => ?_) (fun c138 => ?_)
  · refine v_bipush (v := nI 6) 147 rfl dX5_ended_145 (by decide) ?_
    exact v_iret dX5_ended_147 rfl (by simp_all) rfl
  · refine v_iconst (v := nI 0) 142 rfl dX5_ended_141 (by decide) ?_
    refine v_goto 147 dX5_ended_142 (by decide) ?_
    exact v_iret dX5_ended_147 rfl (by simp_all) rfl

set_option maxRecDepth 100000 in
set_option maxHeartbeats 4000000 in
theorem m_unfinished {D : va_G} {cI cZ cJ : ClassId} {l : Launch} {ad : Nat → Nat} {le : Nat → Int32} {la : Nat → Int32} {kd : Nat → Int32} {fs : Nat → Int32} {sc : Nat → Int32} {mi : Nat → Int32} {bh : Nat → Int32} {mz : Nat} {oo : Nat → Int32} {ie : Nat → Int32} {mo : Nat} {mp : Int32} {mf : Int32} {mq : Int32} {ms : Nat} {mt : Int32} {mc : Int32} {lf : Nat → Int32} {he : Nat → Int32} {pi : Nat → Int32} {ot : Nat → Int32} {bf : Nat → Int32} {ar : Nat → Int32} {md : Nat} (tn : Nat → Nat) (fb : Nat → Bool) (A : Nat) (hA : Okh A) (hla : ∀ p s : Nat, p < 3 → s < 5 → la (5 * p + s) = bI (fb (8 * p + s))) : KM D (tyL cI cZ cJ) l yX5_unfinished wsX5_unfinished 0 0 [.ref (ad 0)] (wM ad cI cZ le la kd fs sc mi bh mz oo ie mo mp mf mq ms mt mc (nowOf A) lf he pi ot bf ar md) (some (.int (bI (decide (leav fb A 4 0 ≠ 0))))) (wM ad cI cZ le la kd fs sc mi bh mz oo ie mo mp mf mq ms mt mc (nowOf A) lf he pi ot bf ar md) := by
  refine KM.of (cc := cX5_unfinished) (nL := 2) (ret := (some .boolean)) (by decide +kernel) rfl (Nat.le_of_ble_eq_true rfl) ?_
  have i5 : ∀ w ∈ u_ws RX5 TX5 25, w ∈ wsX5_unfinished := by decide +kernel
  have loop : ∀ (R m i : Nat), i + m = 4 → leav fb A m i = R → V (xM D (tyL cI cZ cJ) l 0 0 (wM ad cI cZ le la kd fs sc mi bh mz oo ie mo mp mf mq ms mt mc (nowOf A) lf he pi ot bf ar md) (some (.int (bI (decide (R ≠ 0))))) (wM ad cI cZ le la kd fs sc mi bh mz oo ie mo mp mf mq ms mt mc (nowOf A) lf he pi ot bf ar md)) (cX5_unfinished, wsX5_unfinished, yX5_unfinished.cls, 2, (some .boolean), yX5_unfinished.name) 0 0 (wM ad cI cZ le la kd fs sc mi bh mz oo ie mo mp mf mq ms mt mc (nowOf A) lf he pi ot bf ar md) 2 [(1, .int (nI i)), (0, .ref (ad 0))] [] := by
    intro R m
    induction m with
    | zero =>
      intro i hi hres
      refine v_iload_n 3 rfl dX5_unfinished_2 rfl rfl ?_
      refine v_iconst (v := nI 4) 4 rfl dX5_unfinished_3 (by decide) ?_
      refine v_icmp_geN (a := i) (b := 4) 53 7 rfl dX5_unfinished_4 (by decide) (by omega) (by omega) (fun c4 => ?_) (fun c4 => False.elim (by omega))
      refine v_iconst (v := nI 0) 54 rfl dX5_unfinished_53 (by decide) ?_
      refine v_top (v' := bI false) (by decide) ?_
      exact v_zret dX5_unfinished_54 rfl (by rw [← hres]; rfl) rfl
    | succ m ih =>
      intro i hi hres
      refine v_iload_n 3 rfl dX5_unfinished_2 rfl rfl ?_
      refine v_iconst (v := nI 4) 4 rfl dX5_unfinished_3 (by decide) ?_
      refine v_icmp_geN (a := i) (b := 4) 53 7 rfl dX5_unfinished_4 (by decide) (by omega) (by omega) (fun c4 => False.elim (by omega)) (fun c4 => ?_)
      refine v_aload_n 8 rfl dX5_unfinished_7 rfl rfl ?_
      refine v_get (ci := 5) (C := RX5) (T := TX5) (N := 25) (v := .ref (ad 10)) 11 rfl 0 17 dX5_unfinished_8 rfl (Nat.le_of_ble_eq_true rfl) i5 (by decide +kernel) rfl rfl ?_
      refine v_iload_n 12 rfl dX5_unfinished_11 rfl rfl ?_
      refine v_iald (j := i) (v := oI (hb A i)) 13 rfl 10 0 dX5_unfinished_12 rfl rfl (by omega) (by decide) (nowOf_at (by omega)) ?_
      refine v_if_lt 47 16 rfl dX5_unfinished_13 (by decide) (fun c13 => ?_) (fun c13 => ?_)
      · have z : hb A i = 0 := (oI_lt (by have := hb_lt A i; omega)).mp c13
        have hres' : leav fb A m (i + 1) = R := by rw [← hres]; simp [leav, z]
        refine v_iinc (v := nI (i + 1)) (lv' := [(1, .int (nI (i + 1))), (0, .ref (ad 0))]) 50 rfl dX5_unfinished_47 0 rfl (nI_add _ _) (Nat.le_of_ble_eq_true rfl) rfl ?_
        refine v_goto 2 dX5_unfinished_50 (by decide) ?_
        refine v_lv [0, 1] rfl ?_
        exact ih (i + 1) (by omega) hres'
      · have z : 0 < hb A i := Nat.pos_of_ne_zero (fun h => c13 ((oI_lt (by have := hb_lt A i; omega)).mpr h))
        obtain ⟨p, s, hp, hs5, ho⟩ : ∃ p s : Nat, p < 3 ∧ s < 5 ∧ hb A i = 8 * p + s + 1 := by rcases hA.2 i (by omega) with q | q; omega; exact q
        refine v_aload_n 17 rfl dX5_unfinished_16 rfl rfl ?_
        refine v_get (ci := 5) (C := RX5) (T := TX5) (N := 25) (v := .ref (ad 2)) 20 rfl 0 1 dX5_unfinished_17 rfl (Nat.le_of_ble_eq_true rfl) i5 (by decide +kernel) rfl rfl ?_
        refine v_aload_n 21 rfl dX5_unfinished_20 rfl rfl ?_
        refine v_get (ci := 5) (C := RX5) (T := TX5) (N := 25) (v := .ref (ad 10)) 24 rfl 0 17 dX5_unfinished_21 rfl (Nat.le_of_ble_eq_true rfl) i5 (by decide +kernel) rfl rfl ?_
        refine v_iload_n 25 rfl dX5_unfinished_24 rfl rfl ?_
        refine v_iald (j := i) (v := nI (8 * p + s)) 26 rfl 10 0 dX5_unfinished_25 rfl rfl (by omega) (by decide) (by rw [nowOf_at (by omega), ho]; exact oI_s _) ?_
        refine v_bipush (v := nI 8) 28 rfl dX5_unfinished_26 (by decide) ?_
        refine v_idivN (a := 8 * p + s) (b := 8) 29 rfl dX5_unfinished_28 (by omega) (by omega) (by omega) ?_
        refine v_iconst (v := nI 5) 30 rfl dX5_unfinished_29 (by decide) ?_
        refine v_imulN (a := (8 * p + s) / 8) (b := 5) 31 rfl dX5_unfinished_30 ?_
        refine v_aload_n 32 rfl dX5_unfinished_31 rfl rfl ?_
        refine v_get (ci := 5) (C := RX5) (T := TX5) (N := 25) (v := .ref (ad 10)) 35 rfl 0 17 dX5_unfinished_32 rfl (Nat.le_of_ble_eq_true rfl) i5 (by decide +kernel) rfl rfl ?_
        refine v_iload_n 36 rfl dX5_unfinished_35 rfl rfl ?_
        refine v_iald (j := i) (v := nI (8 * p + s)) 37 rfl 10 0 dX5_unfinished_36 rfl rfl (by omega) (by decide) (by rw [nowOf_at (by omega), ho]; exact oI_s _) ?_
        refine v_bipush (v := nI 8) 39 rfl dX5_unfinished_37 (by decide) ?_
        refine v_iremN (a := 8 * p + s) (b := 8) 40 rfl dX5_unfinished_39 (by omega) (by omega) (by omega) ?_
        refine v_iaddN (a := ((8 * p + s) / 8) * 5) (b := (8 * p + s) % 8) 41 rfl dX5_unfinished_40 ?_
        refine v_zald (j := (((8 * p + s) / 8) * 5) + ((8 * p + s) % 8)) (v := bI (fb (8 * p + s))) 42 rfl 2 1 dX5_unfinished_41 rfl rfl (by omega) (by decide) (by rw [show (8 * p + s) / 8 * 5 + (8 * p + s) % 8 = 5 * p + s by omega]; exact hla p s hp hs5) ?_
        refine v_if_neB (b := fb (8 * p + s)) 47 45 rfl dX5_unfinished_42 (by decide) (fun c42 => ?_) (fun c42 => ?_)
        · have hres' : leav fb A m (i + 1) = R := by rw [← hres]; simp [leav, ho, c42]
          refine v_iinc (v := nI (i + 1)) (lv' := [(1, .int (nI (i + 1))), (0, .ref (ad 0))]) 50 rfl dX5_unfinished_47 0 rfl (nI_add _ _) (Nat.le_of_ble_eq_true rfl) rfl ?_
          refine v_goto 2 dX5_unfinished_50 (by decide) ?_
          refine v_lv [0, 1] rfl ?_
          exact ih (i + 1) (by omega) hres'
        · have hR : R = 7 := by rw [← hres]; simp [leav, ho, c42]
          refine v_iconst (v := nI 1) 46 rfl dX5_unfinished_45 (by decide) ?_
          refine v_top (v' := bI true) (by decide) ?_
          exact v_zret dX5_unfinished_46 rfl (by rw [hR]; rfl) rfl
  refine v_iconst (v := nI 0) 1 rfl dX5_unfinished_0 (by decide) ?_
  refine v_istore_n (lv' := [(1, .int (nI 0)), (0, .ref (ad 0))]) 2 rfl dX5_unfinished_1 rfl (Nat.le_of_ble_eq_true rfl) rfl ?_
  exact loop _ 4 0 rfl rfl

