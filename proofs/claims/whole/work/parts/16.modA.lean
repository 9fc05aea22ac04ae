theorem wth_N {a b : Nat} (ha : a < 2 ^ 31) (hb : b < 2 ^ 31) : wth (nI a) (nI b) = decide (a ≤ b) := by
  simp only [wth, nI_ltI hb ha, nI_pos ha, decide_false, Bool.not_false, Bool.true_and]
  by_cases h : a ≤ b
  · simp [h]
  · simp [h, Nat.not_le.mp h]
theorem wth_bel (x : Int32) {b : Nat} (hb : b + 1 < 2 ^ 31) : wth x (nI b) = bel x (nI (b + 1)) := by
  by_cases h : x < 0
  · simp [wth, bel, h]
  · obtain ⟨j, hj, rfl⟩ := nI_of h
    rw [wth_N hj (by omega), bel_N hj hb]
    by_cases h2 : j ≤ b
    · simp [h2, Nat.lt_succ_of_le h2]
    · simp [h2]
      omega

set_option maxRecDepth 100000 in
set_option maxHeartbeats 4000000 in
theorem m_within {D : va_G} {cI cZ cJ : ClassId} {l : Launch} (a b : Int32) : KM D (tyL cI cZ cJ) l yX5_within wsX5_within 0 0 [.int a, .int b] ([]) (some (.int (bI (wth a b)))) ([]) := by
  refine KM.of (cc := cX5_within) (nL := 2) (ret := (some .boolean)) (by decide +kernel) rfl (Nat.le_of_ble_eq_true rfl) ?_
  refine v_iload_n 1 rfl dX5_within_0 rfl rfl ?_
  refine v_if_lt 13 4 rfl dX5_within_1 (by decide) (fun c1 => ?_) (fun c1 => ?_)
  · refine v_iconst (v := nI 0) 14 rfl dX5_within_13 (by decide) ?_
    refine v_top (v' := bI false) (by decide) ?_
    exact v_zret dX5_within_14 rfl (by simp [wth, *]) rfl
  · refine v_iload_n 5 rfl dX5_within_4 rfl rfl ?_
    refine v_iload_n 6 rfl dX5_within_5 rfl rfl ?_
    refine v_icmp_gt 13 9 rfl dX5_within_6 (by decide) (fun c6 => ?_) (fun c6 => ?_)
    · refine v_iconst (v := nI 0) 14 rfl dX5_within_13 (by decide) ?_
      refine v_top (v' := bI false) (by decide) ?_
      exact v_zret dX5_within_14 rfl (by simp [wth, *]) rfl
    · refine v_iconst (v := nI 1) 10 rfl dX5_within_9 (by decide) ?_
      refine v_goto 14 dX5_within_10 (by decide) ?_
      refine v_top (v' := bI true) (by decide) ?_
      exact v_zret dX5_within_14 rfl (by simp [wth, *]) rfl

theorem m_withinT {D : va_G} {cI cZ cJ : ClassId} {l : Launch} (a b : Nat) (hb : b < 2 ^ 30) (h : a ≤ b) : KM D (tyL cI cZ cJ) l yX5_within wsX5_within 0 0 [.int (nI a), .int (nI b)] [] (some (.int (bI true))) [] := by
  have := m_within (D := D) (cI := cI) (cZ := cZ) (cJ := cJ) (l := l) (nI a) (nI b)
  rw [wth_N (by omega) (by omega), decide_eq_true h] at this
  exact this
theorem m_withinB {D : va_G} {cI cZ cJ : ClassId} {l : Launch} (a : Int32) (b : Nat) (hb : b < 2 ^ 30) : KM D (tyL cI cZ cJ) l yX5_within wsX5_within 0 0 [.int a, .int (nI b)] [] (some (.int (bI (bel a (nI (b + 1)))))) [] := by
  have := m_within (D := D) (cI := cI) (cZ := cZ) (cJ := cJ) (l := l) a (nI b)
  rw [wth_bel a (by omega)] at this
  exact this

set_option maxRecDepth 100000 in
set_option maxHeartbeats 4000000 in
theorem m_thrown {D : va_G} {cI cZ cJ : ClassId} {l : Launch} {ad : Nat → Nat} {le : Nat → Int32} {la : Nat → Int32} {kd : Nat → Int32} {fs : Nat → Int32} {sc : Nat → Int32} {mi : Nat → Int32} {bh : Nat → Int32} {mz : Nat} {oo : Nat → Int32} {ie : Nat → Int32} {mo : Nat} {mp : Int32} {mf : Int32} {mq : Int32} {ms : Nat} {mt : Int32} {mc : Int32} {no : Nat → Int32} {lf : Nat → Int32} {he : Nat → Int32} {pi : Nat → Int32} {ot : Nat → Int32} {bf : Nat → Int32} {ar : Nat → Int32} {md : Nat}  : KM D (tyL cI cZ cJ) l yX5_thrown wsX5_thrown 0 0 [.ref (ad 0)] (wM ad cI cZ le la kd fs sc mi bh mz oo ie mo mp mf mq ms mt mc no lf he pi ot bf ar md) (some (.int mt)) (wM ad cI cZ le la kd fs sc mi bh mz oo ie mo mp mf mq ms mt mc no lf he pi ot bf ar md) := by
  refine KM.of (cc := cX5_thrown) (nL := 1) (ret := (some .int)) (by decide +kernel) rfl (Nat.le_of_ble_eq_true rfl) ?_
  have i5 : ∀ w ∈ u_ws RX5 TX5 25, w ∈ wsX5_thrown := by decide +kernel
  refine v_aload_n 1 rfl dX5_thrown_0 rfl rfl ?_
  refine v_get (ci := 5) (C := RX5) (T := TX5) (N := 25) (v := .int mt) 4 rfl 0 15 dX5_thrown_1 rfl (Nat.le_of_ble_eq_true rfl) i5 (by decide +kernel) rfl rfl ?_
  exact v_iret dX5_thrown_4 rfl rfl rfl

theorem lt_m1 {n : Nat} (h : n < 2 ^ 31) : ¬ nI n < -1 := fun q => nI_pos h (Int32.lt_trans q (by decide))
theorem le_4 {x : Int32} (h1 : ¬ x < -1) (h2 : x ≤ nI 4) : x = -1 ∨ bel x (nI 5) = true := by
  by_cases h : x < 0
  · left
    apply Int32.toInt_inj.mp
    have a1 := Int32.lt_iff_toInt_lt.mp h
    have a2 : ¬ x.toInt < (-1 : Int32).toInt := fun z => h1 (Int32.lt_iff_toInt_lt.mpr z)
    have e0 : (0 : Int32).toInt = 0 := by decide
    have e1 : (-1 : Int32).toInt = -1 := by decide
    rw [e0] at a1
    rw [e1] at a2 ⊢
    omega
  · right
    obtain ⟨j, hj, rfl⟩ := nI_of h
    rw [nI_leI hj (by omega)] at h2
    rw [bel_N hj (by omega)]
    simp
    omega

set_option maxRecDepth 100000 in
set_option maxHeartbeats 4000000 in
theorem m_leadN {D : va_G} {cI cZ cJ : ClassId} {l : Launch} {ad : Nat → Nat} {le : Nat → Int32} {la : Nat → Int32} {kd : Nat → Int32} {fs : Nat → Int32} {sc : Nat → Int32} {mi : Nat → Int32} {bh : Nat → Int32} {mz : Nat} {oo : Nat → Int32} {ie : Nat → Int32} {mo : Nat} {mp : Int32} {mf : Int32} {mq : Int32} {ms : Nat} {mt : Int32} {mc : Int32} {no : Nat → Int32} {lf : Nat → Int32} {he : Nat → Int32} {pi : Nat → Int32} {ot : Nat → Int32} {bf : Nat → Int32} {ar : Nat → Int32} {md : Nat} (p s e j : Nat) (hp : p < 3) (hs : s < 5) (hee : e < 4) (hj : j < 5) : KM D (tyL cI cZ cJ) l yX5_lead wsX5_lead 1 21 [.ref (ad 0), .int (nI p), .int (nI s), .int (nI e), .int (nI j)] (wM ad cI cZ le la kd fs sc mi bh mz oo ie mo mp mf mq ms mt mc no lf he pi ot bf ar md) (some (.int (bI true))) (wM ad cI cZ (upd le (20 * p + 4 * s + e) (nI (j + 1))) la kd fs sc mi bh mz oo ie mo mp mf mq ms (nI 0) mc no lf he pi ot bf ar md) := by
  refine KM.of (cc := cX5_lead) (nL := 5) (ret := (some .boolean)) (by decide +kernel) rfl (Nat.le_of_ble_eq_true rfl) ?_
  have i5 : ∀ w ∈ u_ws RX5 TX5 25, w ∈ wsX5_lead := by decide +kernel
  refine v_aload_n 1 rfl dX5_lead_0 rfl rfl ?_
  refine v_iconst (v := nI 0) 2 rfl dX5_lead_1 (by decide) ?_
  refine v_put (ci := 5) (C := RX5) (T := TX5) (ty0 := tyX5) (N := 25) (ty := .int) (w' := wM ad cI cZ le la kd fs sc mi bh mz oo ie mo mp mf mq ms (nI 0) mc no lf he pi ot bf ar md) 5 rfl 0 15 dX5_lead_2 rfl (Nat.le_of_ble_eq_true rfl) i5 tyX5_ok nmX5 (by decide +kernel) rfl (by decide +kernel) rfl rfl rfl (Nat.le_of_ble_eq_true rfl) rfl ?_
  refine v_iload_n 6 rfl dX5_lead_5 rfl rfl ?_
  refine v_iconst (v := nI 2) 7 rfl dX5_lead_6 (by decide) ?_
  refine v_callS (n := 2) 10 rfl (m_withinT p 2 (by omega) (by omega)) gX5_lead_X5_within rfl (by decide +kernel) rfl ⟨(Nat.le_of_ble_eq_true rfl), (Nat.le_of_ble_eq_true rfl)⟩ rfl (Nat.le_of_ble_eq_true rfl) dX5_lead_7 ⟨Nat.zero_le _, Nat.zero_le _⟩ ?_
  refine v_st (st' := [.int (bI true)]) rfl ?_
  refine v_if_eqB (b := true) 41 13 rfl dX5_lead_10 (by decide) (fun q => False.elim (by cases q)) (fun c10 => ?_)
  refine v_iload_n 14 rfl dX5_lead_13 rfl rfl ?_
  refine v_iconst (v := nI 4) 15 rfl dX5_lead_14 (by decide) ?_
  refine v_callS (n := 2) 18 rfl (m_withinT s 4 (by omega) (by omega)) gX5_lead_X5_within rfl (by decide +kernel) rfl ⟨(Nat.le_of_ble_eq_true rfl), (Nat.le_of_ble_eq_true rfl)⟩ rfl (Nat.le_of_ble_eq_true rfl) dX5_lead_15 ⟨Nat.zero_le _, Nat.zero_le _⟩ ?_
  refine v_st (st' := [.int (bI true)]) rfl ?_
  refine v_if_eqB (b := true) 41 21 rfl dX5_lead_18 (by decide) (fun q => False.elim (by cases q)) (fun c18 => ?_)
  refine v_iload_n 22 rfl dX5_lead_21 rfl rfl ?_
  refine v_iconst (v := nI 3) 23 rfl dX5_lead_22 (by decide) ?_
  refine v_callS (n := 2) 26 rfl (m_withinT e 3 (by omega) (by omega)) gX5_lead_X5_within rfl (by decide +kernel) rfl ⟨(Nat.le_of_ble_eq_true rfl), (Nat.le_of_ble_eq_true rfl)⟩ rfl (Nat.le_of_ble_eq_true rfl) dX5_lead_23 ⟨Nat.zero_le _, Nat.zero_le _⟩ ?_
  refine v_st (st' := [.int (bI true)]) rfl ?_
  refine v_if_eqB (b := true) 41 29 rfl dX5_lead_26 (by decide) (fun q => False.elim (by cases q)) (fun c26 => ?_)
  refine v_iload 31 rfl dX5_lead_29 rfl ?_
  refine v_iconst (v := -1) 32 rfl dX5_lead_31 (by decide) ?_
  refine v_icmp_lt 41 35 rfl dX5_lead_32 (by decide) (fun q => False.elim (by exact absurd q (lt_m1 (by omega)))) (fun c32 => ?_)
  refine v_iload 37 rfl dX5_lead_35 rfl ?_
  refine v_iconst (v := nI 4) 38 rfl dX5_lead_37 (by decide) ?_
  refine v_icmp_leN (a := j) (b := 4) 43 41 rfl dX5_lead_38 (by decide) (by omega) (by omega) (fun c38 => ?_) (fun q => False.elim (by omega))
  refine v_aload_n 44 rfl dX5_lead_43 rfl rfl ?_
  refine v_get (ci := 5) (C := RX5) (T := TX5) (N := 25) (v := .ref (ad 1)) 47 rfl 0 0 dX5_lead_44 rfl (Nat.le_of_ble_eq_true rfl) i5 (by decide +kernel) rfl rfl ?_
  refine v_bipush (v := nI 20) 49 rfl dX5_lead_47 (by decide) ?_
  refine v_iload_n 50 rfl dX5_lead_49 rfl rfl ?_
  refine v_imulN (a := 20) (b := p) 51 rfl dX5_lead_50 ?_
  refine v_iconst (v := nI 4) 52 rfl dX5_lead_51 (by decide) ?_
  refine v_iload_n 53 rfl dX5_lead_52 rfl rfl ?_
  refine v_imulN (a := 4) (b := s) 54 rfl dX5_lead_53 ?_
  refine v_iaddN (a := 20 * p) (b := 4 * s) 55 rfl dX5_lead_54 ?_
  refine v_iload_n 56 rfl dX5_lead_55 rfl rfl ?_
  refine v_iaddN (a := (20 * p) + (4 * s)) (b := e) 57 rfl dX5_lead_56 ?_
  refine v_iload 59 rfl dX5_lead_57 rfl ?_
  refine v_iconst (v := nI 1) 60 rfl dX5_lead_59 (by decide) ?_
  refine v_iaddN (a := j) (b := 1) 61 rfl dX5_lead_60 ?_
  refine v_iast (j := ((20 * p) + (4 * s)) + e) (w' := wM ad cI cZ (upd le (((20 * p) + (4 * s)) + e) (nI (j + 1))) la kd fs sc mi bh mz oo ie mo mp mf mq ms (nI 0) mc no lf he pi ot bf ar md) 62 rfl 1 0 dX5_lead_61 rfl rfl (by omega) (by decide) rfl ?_
  refine v_iconst (v := nI 1) 63 rfl dX5_lead_62 (by decide) ?_
  refine v_top (v' := bI true) (by decide) ?_
  exact v_zret dX5_lead_63 rfl rfl rfl

set_option maxRecDepth 100000 in
set_option maxHeartbeats 4000000 in
theorem m_leadM {D : va_G} {cI cZ cJ : ClassId} {l : Launch} {ad : Nat → Nat} {le : Nat → Int32} {la : Nat → Int32} {kd : Nat → Int32} {fs : Nat → Int32} {sc : Nat → Int32} {mi : Nat → Int32} {bh : Nat → Int32} {mz : Nat} {oo : Nat → Int32} {ie : Nat → Int32} {mo : Nat} {mp : Int32} {mf : Int32} {mq : Int32} {ms : Nat} {mt : Int32} {mc : Int32} {no : Nat → Int32} {lf : Nat → Int32} {he : Nat → Int32} {pi : Nat → Int32} {ot : Nat → Int32} {bf : Nat → Int32} {ar : Nat → Int32} {md : Nat} (p s e : Nat) (hp : p < 3) (hs : s < 5) (hee : e < 4) : KM D (tyL cI cZ cJ) l yX5_lead wsX5_lead 1 21 [.ref (ad 0), .int (nI p), .int (nI s), .int (nI e), .int (-1)] (wM ad cI cZ le la kd fs sc mi bh mz oo ie mo mp mf mq ms mt mc no lf he pi ot bf ar md) (some (.int (bI true))) (wM ad cI cZ (upd le (20 * p + 4 * s + e) (nI 0)) la kd fs sc mi bh mz oo ie mo mp mf mq ms (nI 0) mc no lf he pi ot bf ar md) := by
  refine KM.of (cc := cX5_lead) (nL := 5) (ret := (some .boolean)) (by decide +kernel) rfl (Nat.le_of_ble_eq_true rfl) ?_
  have i5 : ∀ w ∈ u_ws RX5 TX5 25, w ∈ wsX5_lead := by decide +kernel
  refine v_aload_n 1 rfl dX5_lead_0 rfl rfl ?_
  refine v_iconst (v := nI 0) 2 rfl dX5_lead_1 (by decide) ?_
  refine v_put (ci := 5) (C := RX5) (T := TX5) (ty0 := tyX5) (N := 25) (ty := .int) (w' := wM ad cI cZ le la kd fs sc mi bh mz oo ie mo mp mf mq ms (nI 0) mc no lf he pi ot bf ar md) 5 rfl 0 15 dX5_lead_2 rfl (Nat.le_of_ble_eq_true rfl) i5 tyX5_ok nmX5 (by decide +kernel) rfl (by decide +kernel) rfl rfl rfl (Nat.le_of_ble_eq_true rfl) rfl ?_
  refine v_iload_n 6 rfl dX5_lead_5 rfl rfl ?_
  refine v_iconst (v := nI 2) 7 rfl dX5_lead_6 (by decide) ?_
  refine v_callS (n := 2) 10 rfl (m_withinT p 2 (by omega) (by omega)) gX5_lead_X5_within rfl (by decide +kernel) rfl ⟨(Nat.le_of_ble_eq_true rfl), (Nat.le_of_ble_eq_true rfl)⟩ rfl (Nat.le_of_ble_eq_true rfl) dX5_lead_7 ⟨Nat.zero_le _, Nat.zero_le _⟩ ?_
  refine v_st (st' := [.int (bI true)]) rfl ?_
  refine v_if_eqB (b := true) 41 13 rfl dX5_lead_10 (by decide) (fun q => False.elim (by cases q)) (fun c10 => ?_)
  refine v_iload_n 14 rfl dX5_lead_13 rfl rfl ?_
  refine v_iconst (v := nI 4) 15 rfl dX5_lead_14 (by decide) ?_
  refine v_callS (n := 2) 18 rfl (m_withinT s 4 (by omega) (by omega)) gX5_lead_X5_within rfl (by decide +kernel) rfl ⟨(Nat.le_of_ble_eq_true rfl), (Nat.le_of_ble_eq_true rfl)⟩ rfl (Nat.le_of_ble_eq_true rfl) dX5_lead_15 ⟨Nat.zero_le _, Nat.zero_le _⟩ ?_
  refine v_st (st' := [.int (bI true)]) rfl ?_
  refine v_if_eqB (b := true) 41 21 rfl dX5_lead_18 (by decide) (fun q => False.elim (by cases q)) (fun c18 => ?_)
  refine v_iload_n 22 rfl dX5_lead_21 rfl rfl ?_
  refine v_iconst (v := nI 3) 23 rfl dX5_lead_22 (by decide) ?_
  refine v_callS (n := 2) 26 rfl (m_withinT e 3 (by omega) (by omega)) gX5_lead_X5_within rfl (by decide +kernel) rfl ⟨(Nat.le_of_ble_eq_true rfl), (Nat.le_of_ble_eq_true rfl)⟩ rfl (Nat.le_of_ble_eq_true rfl) dX5_lead_23 ⟨Nat.zero_le _, Nat.zero_le _⟩ ?_
  refine v_st (st' := [.int (bI true)]) rfl ?_
  refine v_if_eqB (b := true) 41 29 rfl dX5_lead_26 (by decide) (fun q => False.elim (by cases q)) (fun c26 => ?_)
  refine v_iload 31 rfl dX5_lead_29 rfl ?_
  refine v_iconst (v := -1) 32 rfl dX5_lead_31 (by decide) ?_
  refine v_icmp_lt 41 35 rfl dX5_lead_32 (by decide) (fun q => False.elim (by exact absurd q (by decide))) (fun c32 => ?_)
  refine v_iload 37 rfl dX5_lead_35 rfl ?_
  refine v_iconst (v := nI 4) 38 rfl dX5_lead_37 (by decide) ?_
  refine v_icmp_le 43 41 rfl dX5_lead_38 (by decide) (fun c38 => ?_) (fun q => False.elim (by exact absurd q (by decide)))
  refine v_aload_n 44 rfl dX5_lead_43 rfl rfl ?_
  refine v_get (ci := 5) (C := RX5) (T := TX5) (N := 25) (v := .ref (ad 1)) 47 rfl 0 0 dX5_lead_44 rfl (Nat.le_of_ble_eq_true rfl) i5 (by decide +kernel) rfl rfl ?_
  refine v_bipush (v := nI 20) 49 rfl dX5_lead_47 (by decide) ?_
  refine v_iload_n 50 rfl dX5_lead_49 rfl rfl ?_
  refine v_imulN (a := 20) (b := p) 51 rfl dX5_lead_50 ?_
  refine v_iconst (v := nI 4) 52 rfl dX5_lead_51 (by decide) ?_
  refine v_iload_n 53 rfl dX5_lead_52 rfl rfl ?_
  refine v_imulN (a := 4) (b := s) 54 rfl dX5_lead_53 ?_
  refine v_iaddN (a := 20 * p) (b := 4 * s) 55 rfl dX5_lead_54 ?_
  refine v_iload_n 56 rfl dX5_lead_55 rfl rfl ?_
  refine v_iaddN (a := (20 * p) + (4 * s)) (b := e) 57 rfl dX5_lead_56 ?_
  refine v_iload 59 rfl dX5_lead_57 rfl ?_
  refine v_iconst (v := nI 1) 60 rfl dX5_lead_59 (by decide) ?_
  refine v_iadd 61 rfl dX5_lead_60  ?_
  refine v_top (v' := nI 0) (by decide) ?_
  refine v_iast (j := ((20 * p) + (4 * s)) + e) (w' := wM ad cI cZ (upd le (((20 * p) + (4 * s)) + e) (nI 0)) la kd fs sc mi bh mz oo ie mo mp mf mq ms (nI 0) mc no lf he pi ot bf ar md) 62 rfl 1 0 dX5_lead_61 rfl rfl (by omega) (by decide) rfl ?_
  refine v_iconst (v := nI 1) 63 rfl dX5_lead_62 (by decide) ?_
  refine v_top (v' := bI true) (by decide) ?_
  exact v_zret dX5_lead_63 rfl rfl rfl

set_option maxRecDepth 100000 in
set_option maxHeartbeats 4000000 in
theorem m_leadNo {D : va_G} {cI cZ cJ : ClassId} {l : Launch} {ad : Nat → Nat} {le : Nat → Int32} {la : Nat → Int32} {kd : Nat → Int32} {fs : Nat → Int32} {sc : Nat → Int32} {mi : Nat → Int32} {bh : Nat → Int32} {mz : Nat} {oo : Nat → Int32} {ie : Nat → Int32} {mo : Nat} {mp : Int32} {mf : Int32} {mq : Int32} {ms : Nat} {mt : Int32} {mc : Int32} {no : Nat → Int32} {lf : Nat → Int32} {he : Nat → Int32} {pi : Nat → Int32} {ot : Nat → Int32} {bf : Nat → Int32} {ar : Nat → Int32} {md : Nat} (p s e t : Int32) (h : ((bel p (nI 3) && bel s (nI 5)) && bel e (nI 4) && (decide (t = -1) || bel t (nI 5))) = false) : KM D (tyL cI cZ cJ) l yX5_lead wsX5_lead 1 21 [.ref (ad 0), .int p, .int s, .int e, .int t] (wM ad cI cZ le la kd fs sc mi bh mz oo ie mo mp mf mq ms mt mc no lf he pi ot bf ar md) (some (.int (bI false))) (wM ad cI cZ le la kd fs sc mi bh mz oo ie mo mp mf mq ms (nI 0) mc no lf he pi ot bf ar md) := by
  refine KM.of (cc := cX5_lead) (nL := 5) (ret := (some .boolean)) (by decide +kernel) rfl (Nat.le_of_ble_eq_true rfl) ?_
  have i5 : ∀ w ∈ u_ws RX5 TX5 25, w ∈ wsX5_lead := by decide +kernel
  refine v_aload_n 1 rfl dX5_lead_0 rfl rfl ?_
  refine v_iconst (v := nI 0) 2 rfl dX5_lead_1 (by decide) ?_
  refine v_put (ci := 5) (C := RX5) (T := TX5) (ty0 := tyX5) (N := 25) (ty := .int) (w' := wM ad cI cZ le la kd fs sc mi bh mz oo ie mo mp mf mq ms (nI 0) mc no lf he pi ot bf ar md) 5 rfl 0 15 dX5_lead_2 rfl (Nat.le_of_ble_eq_true rfl) i5 tyX5_ok nmX5 (by decide +kernel) rfl (by decide +kernel) rfl rfl rfl (Nat.le_of_ble_eq_true rfl) rfl ?_
  refine v_iload_n 6 rfl dX5_lead_5 rfl rfl ?_
  refine v_iconst (v := nI 2) 7 rfl dX5_lead_6 (by decide) ?_
  refine v_callS (n := 2) 10 rfl (m_withinB p 2 (by omega)) gX5_lead_X5_within rfl (by decide +kernel) rfl ⟨(Nat.le_of_ble_eq_true rfl), (Nat.le_of_ble_eq_true rfl)⟩ rfl (Nat.le_of_ble_eq_true rfl) dX5_lead_7 ⟨Nat.zero_le _, Nat.zero_le _⟩ ?_
  refine v_st (st' := [.int (bI (bel p (nI 3)))]) rfl ?_
  refine v_if_eqB (b := bel p (nI 3)) 41 13 rfl dX5_lead_10 (by decide) (fun c10 => ?_) (fun c10 => ?_)
  · refine v_iconst (v := nI 0) 42 rfl dX5_lead_41 (by decide) ?_
    refine v_top (v' := bI false) (by decide) ?_
    exact v_zret dX5_lead_42 rfl rfl rfl
  · refine v_iload_n 14 rfl dX5_lead_13 rfl rfl ?_
    refine v_iconst (v := nI 4) 15 rfl dX5_lead_14 (by decide) ?_
    refine v_callS (n := 2) 18 rfl (m_withinB s 4 (by omega)) gX5_lead_X5_within rfl (by decide +kernel) rfl ⟨(Nat.le_of_ble_eq_true rfl), (Nat.le_of_ble_eq_true rfl)⟩ rfl (Nat.le_of_ble_eq_true rfl) dX5_lead_15 ⟨Nat.zero_le _, Nat.zero_le _⟩ ?_
    refine v_st (st' := [.int (bI (bel s (nI 5)))]) rfl ?_
    refine v_if_eqB (b := bel s (nI 5)) 41 21 rfl dX5_lead_18 (by decide) (fun c18 => ?_) (fun c18 => ?_)
    · refine v_iconst (v := nI 0) 42 rfl dX5_lead_41 (by decide) ?_
      refine v_top (v' := bI false) (by decide) ?_
      exact v_zret dX5_lead_42 rfl rfl rfl
    · refine v_iload_n 22 rfl dX5_lead_21 rfl rfl ?_
      refine v_iconst (v := nI 3) 23 rfl dX5_lead_22 (by decide) ?_
      refine v_callS (n := 2) 26 rfl (m_withinB e 3 (by omega)) gX5_lead_X5_within rfl (by decide +kernel) rfl ⟨(Nat.le_of_ble_eq_true rfl), (Nat.le_of_ble_eq_true rfl)⟩ rfl (Nat.le_of_ble_eq_true rfl) dX5_lead_23 ⟨Nat.zero_le _, Nat.zero_le _⟩ ?_
      refine v_st (st' := [.int (bI (bel e (nI 4)))]) rfl ?_
      refine v_if_eqB (b := bel e (nI 4)) 41 29 rfl dX5_lead_26 (by decide) (fun c26 => ?_) (fun c26 => ?_)
      · refine v_iconst (v := nI 0) 42 rfl dX5_lead_41 (by decide) ?_
        refine v_top (v' := bI false) (by decide) ?_
        exact v_zret dX5_lead_42 rfl rfl rfl
      · refine v_iload 31 rfl dX5_lead_29 rfl ?_
        refine v_iconst (v := -1) 32 rfl dX5_lead_31 (by decide) ?_
        refine v_icmp_lt 41 35 rfl dX5_lead_32 (by decide) (fun c32 => ?_) (fun c32 => ?_)
        · refine v_iconst (v := nI 0) 42 rfl dX5_lead_41 (by decide) ?_
          refine v_top (v' := bI false) (by decide) ?_
          exact v_zret dX5_lead_42 rfl rfl rfl
        · refine v_iload 37 rfl dX5_lead_35 rfl ?_
          refine v_iconst (v := nI 4) 38 rfl dX5_lead_37 (by decide) ?_
          refine v_icmp_le 43 41 rfl dX5_lead_38 (by decide) (fun c38 => ?_) (fun c38 => ?_)
          · rcases le_4 c32 c38 with z | z <;> exact absurd h (by simp [*])
          · refine v_iconst (v := nI 0) 42 rfl dX5_lead_41 (by decide) ?_
            refine v_top (v' := bI false) (by decide) ?_
            exact v_zret dX5_lead_42 rfl rfl rfl

set_option maxRecDepth 100000 in
set_option maxHeartbeats 4000000 in
theorem m_mark {D : va_G} {cI cZ cJ : ClassId} {l : Launch} {ad : Nat → Nat} {le : Nat → Int32} {la : Nat → Int32} {kd : Nat → Int32} {fs : Nat → Int32} {sc : Nat → Int32} {mi : Nat → Int32} {bh : Nat → Int32} {mz : Nat} {oo : Nat → Int32} {ie : Nat → Int32} {mo : Nat} {mp : Int32} {mf : Int32} {mq : Int32} {ms : Nat} {mt : Int32} {mc : Int32} {no : Nat → Int32} {lf : Nat → Int32} {he : Nat → Int32} {pi : Nat → Int32} {ot : Nat → Int32} {bf : Nat → Int32} {ar : Nat → Int32} {md : Nat} (p s : Nat) (b : Bool) (hp : p < 3) (hs : s < 5) : KM D (tyL cI cZ cJ) l yX5_mark wsX5_mark 1 21 [.ref (ad 0), .int (nI p), .int (nI s), .int (bI b)] (wM ad cI cZ le la kd fs sc mi bh mz oo ie mo mp mf mq ms mt mc no lf he pi ot bf ar md) (some (.int (bI true))) (wM ad cI cZ le (upd la (5 * p + s) (bI b)) kd fs sc mi bh mz oo ie mo mp mf mq ms (nI 0) mc no lf he pi ot bf ar md) := by
  refine KM.of (cc := cX5_mark) (nL := 4) (ret := (some .boolean)) (by decide +kernel) rfl (Nat.le_of_ble_eq_true rfl) ?_
  have i5 : ∀ w ∈ u_ws RX5 TX5 25, w ∈ wsX5_mark := by decide +kernel
  refine v_aload_n 1 rfl dX5_mark_0 rfl rfl ?_
  refine v_iconst (v := nI 0) 2 rfl dX5_mark_1 (by decide) ?_
  refine v_put (ci := 5) (C := RX5) (T := TX5) (ty0 := tyX5) (N := 25) (ty := .int) (w' := wM ad cI cZ le la kd fs sc mi bh mz oo ie mo mp mf mq ms (nI 0) mc no lf he pi ot bf ar md) 5 rfl 0 15 dX5_mark_2 rfl (Nat.le_of_ble_eq_true rfl) i5 tyX5_ok nmX5 (by decide +kernel) rfl (by decide +kernel) rfl rfl rfl (Nat.le_of_ble_eq_true rfl) rfl ?_
  refine v_iload_n 6 rfl dX5_mark_5 rfl rfl ?_
  refine v_iconst (v := nI 2) 7 rfl dX5_mark_6 (by decide) ?_
  refine v_callS (n := 2) 10 rfl (m_withinT p 2 (by omega) (by omega)) gX5_mark_X5_within rfl (by decide +kernel) rfl ⟨(Nat.le_of_ble_eq_true rfl), (Nat.le_of_ble_eq_true rfl)⟩ rfl (Nat.le_of_ble_eq_true rfl) dX5_mark_7 ⟨Nat.zero_le _, Nat.zero_le _⟩ ?_
  refine v_st (st' := [.int (bI true)]) rfl ?_
  refine v_if_eqB (b := true) 21 13 rfl dX5_mark_10 (by decide) (fun q => False.elim (by cases q)) (fun c10 => ?_)
  refine v_iload_n 14 rfl dX5_mark_13 rfl rfl ?_
  refine v_iconst (v := nI 4) 15 rfl dX5_mark_14 (by decide) ?_
  refine v_callS (n := 2) 18 rfl (m_withinT s 4 (by omega) (by omega)) gX5_mark_X5_within rfl (by decide +kernel) rfl ⟨(Nat.le_of_ble_eq_true rfl), (Nat.le_of_ble_eq_true rfl)⟩ rfl (Nat.le_of_ble_eq_true rfl) dX5_mark_15 ⟨Nat.zero_le _, Nat.zero_le _⟩ ?_
  refine v_st (st' := [.int (bI true)]) rfl ?_
  refine v_if_neB (b := true) 23 21 rfl dX5_mark_18 (by decide) (fun c18 => ?_) (fun q => False.elim (by cases q))
  refine v_aload_n 24 rfl dX5_mark_23 rfl rfl ?_
  refine v_get (ci := 5) (C := RX5) (T := TX5) (N := 25) (v := .ref (ad 2)) 27 rfl 0 1 dX5_mark_24 rfl (Nat.le_of_ble_eq_true rfl) i5 (by decide +kernel) rfl rfl ?_
  refine v_iconst (v := nI 5) 28 rfl dX5_mark_27 (by decide) ?_
  refine v_iload_n 29 rfl dX5_mark_28 rfl rfl ?_
  refine v_imulN (a := 5) (b := p) 30 rfl dX5_mark_29 ?_
  refine v_iload_n 31 rfl dX5_mark_30 rfl rfl ?_
  refine v_iaddN (a := 5 * p) (b := s) 32 rfl dX5_mark_31 ?_
  refine v_iload_n 33 rfl dX5_mark_32 rfl rfl ?_
  refine v_zast (j := (5 * p) + s) (b := b) (w' := wM ad cI cZ le (upd la ((5 * p) + s) (bI b)) kd fs sc mi bh mz oo ie mo mp mf mq ms (nI 0) mc no lf he pi ot bf ar md) 34 rfl 2 1 dX5_mark_33 rfl rfl (by omega) (by decide) rfl ?_
  refine v_iconst (v := nI 1) 35 rfl dX5_mark_34 (by decide) ?_
  refine v_top (v' := bI true) (by decide) ?_
  exact v_zret dX5_mark_35 rfl rfl rfl

set_option maxRecDepth 100000 in
set_option maxHeartbeats 4000000 in
theorem m_markNo {D : va_G} {cI cZ cJ : ClassId} {l : Launch} {ad : Nat → Nat} {le : Nat → Int32} {la : Nat → Int32} {kd : Nat → Int32} {fs : Nat → Int32} {sc : Nat → Int32} {mi : Nat → Int32} {bh : Nat → Int32} {mz : Nat} {oo : Nat → Int32} {ie : Nat → Int32} {mo : Nat} {mp : Int32} {mf : Int32} {mq : Int32} {ms : Nat} {mt : Int32} {mc : Int32} {no : Nat → Int32} {lf : Nat → Int32} {he : Nat → Int32} {pi : Nat → Int32} {ot : Nat → Int32} {bf : Nat → Int32} {ar : Nat → Int32} {md : Nat} (p s : Int32) (b : Bool) (h : (bel p (nI 3) && bel s (nI 5)) = false) : KM D (tyL cI cZ cJ) l yX5_mark wsX5_mark 1 21 [.ref (ad 0), .int p, .int s, .int (bI b)] (wM ad cI cZ le la kd fs sc mi bh mz oo ie mo mp mf mq ms mt mc no lf he pi ot bf ar md) (some (.int (bI false))) (wM ad cI cZ le la kd fs sc mi bh mz oo ie mo mp mf mq ms (nI 0) mc no lf he pi ot bf ar md) := by
  refine KM.of (cc := cX5_mark) (nL := 4) (ret := (some .boolean)) (by decide +kernel) rfl (Nat.le_of_ble_eq_true rfl) ?_
  have i5 : ∀ w ∈ u_ws RX5 TX5 25, w ∈ wsX5_mark := by decide +kernel
  refine v_aload_n 1 rfl dX5_mark_0 rfl rfl ?_
  refine v_iconst (v := nI 0) 2 rfl dX5_mark_1 (by decide) ?_
  refine v_put (ci := 5) (C := RX5) (T := TX5) (ty0 := tyX5) (N := 25) (ty := .int) (w' := wM ad cI cZ le la kd fs sc mi bh mz oo ie mo mp mf mq ms (nI 0) mc no lf he pi ot bf ar md) 5 rfl 0 15 dX5_mark_2 rfl (Nat.le_of_ble_eq_true rfl) i5 tyX5_ok nmX5 (by decide +kernel) rfl (by decide +kernel) rfl rfl rfl (Nat.le_of_ble_eq_true rfl) rfl ?_
  refine v_iload_n 6 rfl dX5_mark_5 rfl rfl ?_
  refine v_iconst (v := nI 2) 7 rfl dX5_mark_6 (by decide) ?_
  refine v_callS (n := 2) 10 rfl (m_withinB p 2 (by omega)) gX5_mark_X5_within rfl (by decide +kernel) rfl ⟨(Nat.le_of_ble_eq_true rfl), (Nat.le_of_ble_eq_true rfl)⟩ rfl (Nat.le_of_ble_eq_true rfl) dX5_mark_7 ⟨Nat.zero_le _, Nat.zero_le _⟩ ?_
  refine v_st (st' := [.int (bI (bel p (nI 3)))]) rfl ?_
  refine v_if_eqB (b := bel p (nI 3)) 21 13 rfl dX5_mark_10 (by decide) (fun c10 => ?_) (fun c10 => ?_)
  · refine v_iconst (v := nI 0) 22 rfl dX5_mark_21 (by decide) ?_
    refine v_top (v' := bI false) (by decide) ?_
    exact v_zret dX5_mark_22 rfl rfl rfl
  · refine v_iload_n 14 rfl dX5_mark_13 rfl rfl ?_
    refine v_iconst (v := nI 4) 15 rfl dX5_mark_14 (by decide) ?_
    refine v_callS (n := 2) 18 rfl (m_withinB s 4 (by omega)) gX5_mark_X5_within rfl (by decide +kernel) rfl ⟨(Nat.le_of_ble_eq_true rfl), (Nat.le_of_ble_eq_true rfl)⟩ rfl (Nat.le_of_ble_eq_true rfl) dX5_mark_15 ⟨Nat.zero_le _, Nat.zero_le _⟩ ?_
    refine v_st (st' := [.int (bI (bel s (nI 5)))]) rfl ?_
    refine v_if_neB (b := bel s (nI 5)) 23 21 rfl dX5_mark_18 (by decide) (fun c18 => ?_) (fun c18 => ?_)
    · exact absurd h (by simp [*])
    · refine v_iconst (v := nI 0) 22 rfl dX5_mark_21 (by decide) ?_
      refine v_top (v' := bI false) (by decide) ?_
      exact v_zret dX5_mark_22 rfl rfl rfl

set_option maxRecDepth 100000 in
set_option maxHeartbeats 4000000 in
theorem m_add {D : va_G} {cI cZ cJ : ClassId} {l : Launch} {ad : Nat → Nat} {le : Nat → Int32} {la : Nat → Int32} {kd : Nat → Int32} {fs : Nat → Int32} {sc : Nat → Int32} {mi : Nat → Int32} {bh : Nat → Int32} {mz : Nat} {oo : Nat → Int32} {ie : Nat → Int32} {mo : Nat} {mp : Int32} {mf : Int32} {mq : Int32} {ms : Nat} {mt : Int32} {mc : Int32} {no : Nat → Int32} {lf : Nat → Int32} {he : Nat → Int32} {pi : Nat → Int32} {ot : Nat → Int32} {bf : Nat → Int32} {ar : Nat → Int32} {md : Nat} (k a b : Int32) (hs : mz < 40) : KM D (tyL cI cZ cJ) l yX5_add wsX5_add 0 0 [.ref (ad 0), .int k, .int a, .int b] (wM ad cI cZ le la kd fs sc mi bh mz oo ie mo mp mf mq ms mt mc no lf he pi ot bf ar md) (some (.int (nI mz))) (wM ad cI cZ le la (upd kd mz k) (upd fs mz a) (upd sc mz b) mi bh (mz + 1) oo ie mo mp mf mq ms mt mc no lf he pi ot bf ar md) := by
  refine KM.of (cc := cX5_add) (nL := 4) (ret := (some .int)) (by decide +kernel) rfl (Nat.le_of_ble_eq_true rfl) ?_
  have i5 : ∀ w ∈ u_ws RX5 TX5 25, w ∈ wsX5_add := by decide +kernel
  refine v_aload_n 1 rfl dX5_add_0 rfl rfl ?_
  refine v_get (ci := 5) (C := RX5) (T := TX5) (N := 25) (v := .int (nI mz)) 4 rfl 0 7 dX5_add_1 rfl (Nat.le_of_ble_eq_true rfl) i5 (by decide +kernel) rfl rfl ?_
  refine v_bipush (v := nI 40) 6 rfl dX5_add_4 (by decide) ?_
  refine v_icmp_neN (a := mz) (b := 40) 11 9 rfl dX5_add_6 (by decide) (by omega) (by omega) (fun c6 => ?_) (fun q => False.elim (by omega))
  refine v_aload_n 12 rfl dX5_add_11 rfl rfl ?_
  refine v_get (ci := 5) (C := RX5) (T := TX5) (N := 25) (v := .ref (ad 3)) 15 rfl 0 2 dX5_add_12 rfl (Nat.le_of_ble_eq_true rfl) i5 (by decide +kernel) rfl rfl ?_
  refine v_aload_n 16 rfl dX5_add_15 rfl rfl ?_
  refine v_get (ci := 5) (C := RX5) (T := TX5) (N := 25) (v := .int (nI mz)) 19 rfl 0 7 dX5_add_16 rfl (Nat.le_of_ble_eq_true rfl) i5 (by decide +kernel) rfl rfl ?_
  refine v_iload_n 20 rfl dX5_add_19 rfl rfl ?_
  refine v_iast (j := mz) (w' := wM ad cI cZ le la (upd kd mz k) fs sc mi bh mz oo ie mo mp mf mq ms mt mc no lf he pi ot bf ar md) 21 rfl 3 0 dX5_add_20 rfl rfl (by omega) (by decide) rfl ?_
  refine v_aload_n 22 rfl dX5_add_21 rfl rfl ?_
  refine v_get (ci := 5) (C := RX5) (T := TX5) (N := 25) (v := .ref (ad 4)) 25 rfl 0 3 dX5_add_22 rfl (Nat.le_of_ble_eq_true rfl) i5 (by decide +kernel) rfl rfl ?_
  refine v_aload_n 26 rfl dX5_add_25 rfl rfl ?_
  refine v_get (ci := 5) (C := RX5) (T := TX5) (N := 25) (v := .int (nI mz)) 29 rfl 0 7 dX5_add_26 rfl (Nat.le_of_ble_eq_true rfl) i5 (by decide +kernel) rfl rfl ?_
  refine v_iload_n 30 rfl dX5_add_29 rfl rfl ?_
  refine v_iast (j := mz) (w' := wM ad cI cZ le la (upd kd mz k) (upd fs mz a) sc mi bh mz oo ie mo mp mf mq ms mt mc no lf he pi ot bf ar md) 31 rfl 4 0 dX5_add_30 rfl rfl (by omega) (by decide) rfl ?_
  refine v_aload_n 32 rfl dX5_add_31 rfl rfl ?_
  refine v_get (ci := 5) (C := RX5) (T := TX5) (N := 25) (v := .ref (ad 5)) 35 rfl 0 4 dX5_add_32 rfl (Nat.le_of_ble_eq_true rfl) i5 (by decide +kernel) rfl rfl ?_
  refine v_aload_n 36 rfl dX5_add_35 rfl rfl ?_
  refine v_get (ci := 5) (C := RX5) (T := TX5) (N := 25) (v := .int (nI mz)) 39 rfl 0 7 dX5_add_36 rfl (Nat.le_of_ble_eq_true rfl) i5 (by decide +kernel) rfl rfl ?_
  refine v_iload_n 40 rfl dX5_add_39 rfl rfl ?_
  refine v_iast (j := mz) (w' := wM ad cI cZ le la (upd kd mz k) (upd fs mz a) (upd sc mz b) mi bh mz oo ie mo mp mf mq ms mt mc no lf he pi ot bf ar md) 41 rfl 5 0 dX5_add_40 rfl rfl (by omega) (by decide) rfl ?_
  refine v_aload_n 42 rfl dX5_add_41 rfl rfl ?_
  refine v_aload_n 43 rfl dX5_add_42 rfl rfl ?_
  refine v_get (ci := 5) (C := RX5) (T := TX5) (N := 25) (v := .int (nI mz)) 46 rfl 0 7 dX5_add_43 rfl (Nat.le_of_ble_eq_true rfl) i5 (by decide +kernel) rfl rfl ?_
  refine v_iconst (v := nI 1) 47 rfl dX5_add_46 (by decide) ?_
  refine v_iaddN (a := mz) (b := 1) 48 rfl dX5_add_47 ?_
  refine v_put (ci := 5) (C := RX5) (T := TX5) (ty0 := tyX5) (N := 25) (ty := .int) (w' := wM ad cI cZ le la (upd kd mz k) (upd fs mz a) (upd sc mz b) mi bh (mz + 1) oo ie mo mp mf mq ms mt mc no lf he pi ot bf ar md) 51 rfl 0 7 dX5_add_48 rfl (Nat.le_of_ble_eq_true rfl) i5 tyX5_ok nmX5 (by decide +kernel) rfl (by decide +kernel) rfl rfl rfl (Nat.le_of_ble_eq_true rfl) rfl ?_
  refine v_aload_n 52 rfl dX5_add_51 rfl rfl ?_
  refine v_get (ci := 5) (C := RX5) (T := TX5) (N := 25) (v := .int (nI (mz + 1))) 55 rfl 0 7 dX5_add_52 rfl (Nat.le_of_ble_eq_true rfl) i5 (by decide +kernel) rfl rfl ?_
  refine v_iconst (v := nI 1) 56 rfl dX5_add_55 (by decide) ?_
  refine v_isubN (a := mz + 1) (b := 1) 57 rfl dX5_add_56 (by omega) ?_
  exact v_iret dX5_add_57 rfl (by rw [Nat.add_sub_cancel]) rfl

set_option maxRecDepth 100000 in
set_option maxHeartbeats 4000000 in
theorem m_addF {D : va_G} {cI cZ cJ : ClassId} {l : Launch} {ad : Nat → Nat} {le : Nat → Int32} {la : Nat → Int32} {kd : Nat → Int32} {fs : Nat → Int32} {sc : Nat → Int32} {mi : Nat → Int32} {bh : Nat → Int32} {mz : Nat} {oo : Nat → Int32} {ie : Nat → Int32} {mo : Nat} {mp : Int32} {mf : Int32} {mq : Int32} {ms : Nat} {mt : Int32} {mc : Int32} {no : Nat → Int32} {lf : Nat → Int32} {he : Nat → Int32} {pi : Nat → Int32} {ot : Nat → Int32} {bf : Nat → Int32} {ar : Nat → Int32} {md : Nat} (k a b : Int32) (hs : mz = 40) : KM D (tyL cI cZ cJ) l yX5_add wsX5_add 0 0 [.ref (ad 0), .int k, .int a, .int b] (wM ad cI cZ le la kd fs sc mi bh mz oo ie mo mp mf mq ms mt mc no lf he pi ot bf ar md) (some (.int (-1))) (wM ad cI cZ le la kd fs sc mi bh mz oo ie mo mp mf mq ms mt mc no lf he pi ot bf ar md) := by
  refine KM.of (cc := cX5_add) (nL := 4) (ret := (some .int)) (by decide +kernel) rfl (Nat.le_of_ble_eq_true rfl) ?_
  have i5 : ∀ w ∈ u_ws RX5 TX5 25, w ∈ wsX5_add := by decide +kernel
  refine v_aload_n 1 rfl dX5_add_0 rfl rfl ?_
  refine v_get (ci := 5) (C := RX5) (T := TX5) (N := 25) (v := .int (nI mz)) 4 rfl 0 7 dX5_add_1 rfl (Nat.le_of_ble_eq_true rfl) i5 (by decide +kernel) rfl rfl ?_
  refine v_bipush (v := nI 40) 6 rfl dX5_add_4 (by decide) ?_
  refine v_icmp_neN (a := mz) (b := 40) 11 9 rfl dX5_add_6 (by decide) (by omega) (by omega) (fun q => False.elim (by omega)) (fun c6 => ?_)
  refine v_iconst (v := -1) 10 rfl dX5_add_9 (by decide) ?_
  exact v_iret dX5_add_10 rfl rfl rfl

set_option maxRecDepth 100000 in
set_option maxHeartbeats 4000000 in
theorem m_make {D : va_G} {cI cZ cJ : ClassId} {l : Launch} {ad : Nat → Nat} {le : Nat → Int32} {la : Nat → Int32} {kd : Nat → Int32} {fs : Nat → Int32} {sc : Nat → Int32} {mi : Nat → Int32} {bh : Nat → Int32} {mz : Nat} {oo : Nat → Int32} {ie : Nat → Int32} {mo : Nat} {mp : Int32} {mf : Int32} {mq : Int32} {ms : Nat} {mt : Int32} {mc : Int32} {no : Nat → Int32} {lf : Nat → Int32} {he : Nat → Int32} {pi : Nat → Int32} {ot : Nat → Int32} {bf : Nat → Int32} {ar : Nat → Int32} {md : Nat} (v x : Nat) (hv : v < 4) (hx : x < 3) (hs : mz < 40) : KM D (tyL cI cZ cJ) l yX5_make wsX5_make 1 23 [.ref (ad 0), .int (nI v), .int (nI x)] (wM ad cI cZ le la kd fs sc mi bh mz oo ie mo mp mf mq ms mt mc no lf he pi ot bf ar md) (some (.int (nI mz))) (wM ad cI cZ le la (upd kd mz (nI 0)) (upd fs mz (nI v)) (upd sc mz (nI x)) mi bh (mz + 1) oo ie mo mp mf mq ms (nI 0) mc no lf he pi ot bf ar md) := by
  refine KM.of (cc := cX5_make) (nL := 3) (ret := (some .int)) (by decide +kernel) rfl (Nat.le_of_ble_eq_true rfl) ?_
  have i5 : ∀ w ∈ u_ws RX5 TX5 25, w ∈ wsX5_make := by decide +kernel
  refine v_aload_n 1 rfl dX5_make_0 rfl rfl ?_
  refine v_iconst (v := nI 0) 2 rfl dX5_make_1 (by decide) ?_
  refine v_put (ci := 5) (C := RX5) (T := TX5) (ty0 := tyX5) (N := 25) (ty := .int) (w' := wM ad cI cZ le la kd fs sc mi bh mz oo ie mo mp mf mq ms (nI 0) mc no lf he pi ot bf ar md) 5 rfl 0 15 dX5_make_2 rfl (Nat.le_of_ble_eq_true rfl) i5 tyX5_ok nmX5 (by decide +kernel) rfl (by decide +kernel) rfl rfl rfl (Nat.le_of_ble_eq_true rfl) rfl ?_
  refine v_iload_n 6 rfl dX5_make_5 rfl rfl ?_
  refine v_iconst (v := nI 3) 7 rfl dX5_make_6 (by decide) ?_
  refine v_callS (n := 2) 10 rfl (m_withinT v 3 (by omega) (by omega)) gX5_make_X5_within rfl (by decide +kernel) rfl ⟨(Nat.le_of_ble_eq_true rfl), (Nat.le_of_ble_eq_true rfl)⟩ rfl (Nat.le_of_ble_eq_true rfl) dX5_make_7 ⟨Nat.zero_le _, Nat.zero_le _⟩ ?_
  refine v_st (st' := [.int (bI true)]) rfl ?_
  refine v_if_eqB (b := true) 31 13 rfl dX5_make_10 (by decide) (fun q => False.elim (by cases q)) (fun c10 => ?_)
  refine v_iload_n 14 rfl dX5_make_13 rfl rfl ?_
  refine v_iconst (v := nI 2) 15 rfl dX5_make_14 (by decide) ?_
  refine v_callS (n := 2) 18 rfl (m_withinT x 2 (by omega) (by omega)) gX5_make_X5_within rfl (by decide +kernel) rfl ⟨(Nat.le_of_ble_eq_true rfl), (Nat.le_of_ble_eq_true rfl)⟩ rfl (Nat.le_of_ble_eq_true rfl) dX5_make_15 ⟨Nat.zero_le _, Nat.zero_le _⟩ ?_
  refine v_st (st' := [.int (bI true)]) rfl ?_
  refine v_if_eqB (b := true) 31 21 rfl dX5_make_18 (by decide) (fun q => False.elim (by cases q)) (fun c18 => ?_)
  refine v_aload_n 22 rfl dX5_make_21 rfl rfl ?_
  refine v_iconst (v := nI 0) 23 rfl dX5_make_22 (by decide) ?_
  refine v_iload_n 24 rfl dX5_make_23 rfl rfl ?_
  refine v_iload_n 25 rfl dX5_make_24 rfl rfl ?_
  refine v_callF (n := 3) (q0 := 0) (ci := 5) 28 rfl (m_add (nI 0) (nI v) (nI x) hs) gX5_make_X5_add rfl (by decide +kernel) rfl ⟨(Nat.le_of_ble_eq_true rfl), (Nat.le_of_ble_eq_true rfl)⟩ rfl (Nat.le_of_ble_eq_true rfl) rfl rfl rfl dX5_make_25 ⟨Nat.zero_le _, Nat.zero_le _⟩ rfl ?_
  refine v_st (st' := [.int (nI mz)]) rfl ?_
  refine v_goto 32 dX5_make_28 (by decide) ?_
  exact v_iret dX5_make_32 rfl rfl rfl

set_option maxRecDepth 100000 in
set_option maxHeartbeats 4000000 in
theorem m_makeF {D : va_G} {cI cZ cJ : ClassId} {l : Launch} {ad : Nat → Nat} {le : Nat → Int32} {la : Nat → Int32} {kd : Nat → Int32} {fs : Nat → Int32} {sc : Nat → Int32} {mi : Nat → Int32} {bh : Nat → Int32} {mz : Nat} {oo : Nat → Int32} {ie : Nat → Int32} {mo : Nat} {mp : Int32} {mf : Int32} {mq : Int32} {ms : Nat} {mt : Int32} {mc : Int32} {no : Nat → Int32} {lf : Nat → Int32} {he : Nat → Int32} {pi : Nat → Int32} {ot : Nat → Int32} {bf : Nat → Int32} {ar : Nat → Int32} {md : Nat} (v x : Nat) (hv : v < 4) (hx : x < 3) (hs : mz = 40) : KM D (tyL cI cZ cJ) l yX5_make wsX5_make 1 23 [.ref (ad 0), .int (nI v), .int (nI x)] (wM ad cI cZ le la kd fs sc mi bh mz oo ie mo mp mf mq ms mt mc no lf he pi ot bf ar md) (some (.int (-1))) (wM ad cI cZ le la kd fs sc mi bh mz oo ie mo mp mf mq ms (nI 0) mc no lf he pi ot bf ar md) := by
  refine KM.of (cc := cX5_make) (nL := 3) (ret := (some .int)) (by decide +kernel) rfl (Nat.le_of_ble_eq_true rfl) ?_
  have i5 : ∀ w ∈ u_ws RX5 TX5 25, w ∈ wsX5_make := by decide +kernel
  refine v_aload_n 1 rfl dX5_make_0 rfl rfl ?_
  refine v_iconst (v := nI 0) 2 rfl dX5_make_1 (by decide) ?_
  refine v_put (ci := 5) (C := RX5) (T := TX5) (ty0 := tyX5) (N := 25) (ty := .int) (w' := wM ad cI cZ le la kd fs sc mi bh mz oo ie mo mp mf mq ms (nI 0) mc no lf he pi ot bf ar md) 5 rfl 0 15 dX5_make_2 rfl (Nat.le_of_ble_eq_true rfl) i5 tyX5_ok nmX5 (by decide +kernel) rfl (by decide +kernel) rfl rfl rfl (Nat.le_of_ble_eq_true rfl) rfl ?_
  refine v_iload_n 6 rfl dX5_make_5 rfl rfl ?_
  refine v_iconst (v := nI 3) 7 rfl dX5_make_6 (by decide) ?_
  refine v_callS (n := 2) 10 rfl (m_withinT v 3 (by omega) (by omega)) gX5_make_X5_within rfl (by decide +kernel) rfl ⟨(Nat.le_of_ble_eq_true rfl), (Nat.le_of_ble_eq_true rfl)⟩ rfl (Nat.le_of_ble_eq_true rfl) dX5_make_7 ⟨Nat.zero_le _, Nat.zero_le _⟩ ?_
  refine v_st (st' := [.int (bI true)]) rfl ?_
  refine v_if_eqB (b := true) 31 13 rfl dX5_make_10 (by decide) (fun q => False.elim (by cases q)) (fun c10 => ?_)
  refine v_iload_n 14 rfl dX5_make_13 rfl rfl ?_
  refine v_iconst (v := nI 2) 15 rfl dX5_make_14 (by decide) ?_
  refine v_callS (n := 2) 18 rfl (m_withinT x 2 (by omega) (by omega)) gX5_make_X5_within rfl (by decide +kernel) rfl ⟨(Nat.le_of_ble_eq_true rfl), (Nat.le_of_ble_eq_true rfl)⟩ rfl (Nat.le_of_ble_eq_true rfl) dX5_make_15 ⟨Nat.zero_le _, Nat.zero_le _⟩ ?_
  refine v_st (st' := [.int (bI true)]) rfl ?_
  refine v_if_eqB (b := true) 31 21 rfl dX5_make_18 (by decide) (fun q => False.elim (by cases q)) (fun c18 => ?_)
  refine v_aload_n 22 rfl dX5_make_21 rfl rfl ?_
  refine v_iconst (v := nI 0) 23 rfl dX5_make_22 (by decide) ?_
  refine v_iload_n 24 rfl dX5_make_23 rfl rfl ?_
  refine v_iload_n 25 rfl dX5_make_24 rfl rfl ?_
  refine v_callF (n := 3) (q0 := 0) (ci := 5) 28 rfl (m_addF (nI 0) (nI v) (nI x) hs) gX5_make_X5_add rfl (by decide +kernel) rfl ⟨(Nat.le_of_ble_eq_true rfl), (Nat.le_of_ble_eq_true rfl)⟩ rfl (Nat.le_of_ble_eq_true rfl) rfl rfl rfl dX5_make_25 ⟨Nat.zero_le _, Nat.zero_le _⟩ rfl ?_
  refine v_st (st' := [.int (-1)]) rfl ?_
  refine v_goto 32 dX5_make_28 (by decide) ?_
  exact v_iret dX5_make_32 rfl rfl rfl

set_option maxRecDepth 100000 in
set_option maxHeartbeats 4000000 in
theorem m_makeNo {D : va_G} {cI cZ cJ : ClassId} {l : Launch} {ad : Nat → Nat} {le : Nat → Int32} {la : Nat → Int32} {kd : Nat → Int32} {fs : Nat → Int32} {sc : Nat → Int32} {mi : Nat → Int32} {bh : Nat → Int32} {mz : Nat} {oo : Nat → Int32} {ie : Nat → Int32} {mo : Nat} {mp : Int32} {mf : Int32} {mq : Int32} {ms : Nat} {mt : Int32} {mc : Int32} {no : Nat → Int32} {lf : Nat → Int32} {he : Nat → Int32} {pi : Nat → Int32} {ot : Nat → Int32} {bf : Nat → Int32} {ar : Nat → Int32} {md : Nat} (v x : Int32) (h : (bel v (nI 4) && bel x (nI 3)) = false) : KM D (tyL cI cZ cJ) l yX5_make wsX5_make 1 21 [.ref (ad 0), .int v, .int x] (wM ad cI cZ le la kd fs sc mi bh mz oo ie mo mp mf mq ms mt mc no lf he pi ot bf ar md) (some (.int (-1))) (wM ad cI cZ le la kd fs sc mi bh mz oo ie mo mp mf mq ms (nI 0) mc no lf he pi ot bf ar md) := by
  refine KM.of (cc := cX5_make) (nL := 3) (ret := (some .int)) (by decide +kernel) rfl (Nat.le_of_ble_eq_true rfl) ?_
  have i5 : ∀ w ∈ u_ws RX5 TX5 25, w ∈ wsX5_make := by decide +kernel
  refine v_aload_n 1 rfl dX5_make_0 rfl rfl ?_
  refine v_iconst (v := nI 0) 2 rfl dX5_make_1 (by decide) ?_
  refine v_put (ci := 5) (C := RX5) (T := TX5) (ty0 := tyX5) (N := 25) (ty := .int) (w' := wM ad cI cZ le la kd fs sc mi bh mz oo ie mo mp mf mq ms (nI 0) mc no lf he pi ot bf ar md) 5 rfl 0 15 dX5_make_2 rfl (Nat.le_of_ble_eq_true rfl) i5 tyX5_ok nmX5 (by decide +kernel) rfl (by decide +kernel) rfl rfl rfl (Nat.le_of_ble_eq_true rfl) rfl ?_
  refine v_iload_n 6 rfl dX5_make_5 rfl rfl ?_
  refine v_iconst (v := nI 3) 7 rfl dX5_make_6 (by decide) ?_
  refine v_callS (n := 2) 10 rfl (m_withinB v 3 (by omega)) gX5_make_X5_within rfl (by decide +kernel) rfl ⟨(Nat.le_of_ble_eq_true rfl), (Nat.le_of_ble_eq_true rfl)⟩ rfl (Nat.le_of_ble_eq_true rfl) dX5_make_7 ⟨Nat.zero_le _, Nat.zero_le _⟩ ?_
  refine v_st (st' := [.int (bI (bel v (nI 4)))]) rfl ?_
  refine v_if_eqB (b := bel v (nI 4)) 31 13 rfl dX5_make_10 (by decide) (fun c10 => ?_) (fun c10 => ?_)
  · refine v_iconst (v := -1) 32 rfl dX5_make_31 (by decide) ?_
    exact v_iret dX5_make_32 rfl rfl rfl
  · refine v_iload_n 14 rfl dX5_make_13 rfl rfl ?_
    refine v_iconst (v := nI 2) 15 rfl dX5_make_14 (by decide) ?_
    refine v_callS (n := 2) 18 rfl (m_withinB x 2 (by omega)) gX5_make_X5_within rfl (by decide +kernel) rfl ⟨(Nat.le_of_ble_eq_true rfl), (Nat.le_of_ble_eq_true rfl)⟩ rfl (Nat.le_of_ble_eq_true rfl) dX5_make_15 ⟨Nat.zero_le _, Nat.zero_le _⟩ ?_
    refine v_st (st' := [.int (bI (bel x (nI 3)))]) rfl ?_
    refine v_if_eqB (b := bel x (nI 3)) 31 21 rfl dX5_make_18 (by decide) (fun c18 => ?_) (fun c18 => ?_)
    · refine v_iconst (v := -1) 32 rfl dX5_make_31 (by decide) ?_
      exact v_iret dX5_make_32 rfl rfl rfl
    · exact absurd h (by simp [*])

set_option maxRecDepth 100000 in
set_option maxHeartbeats 4000000 in
theorem m_call {D : va_G} {cI cZ cJ : ClassId} {l : Launch} {ad : Nat → Nat} {le : Nat → Int32} {la : Nat → Int32} {kd : Nat → Int32} {fs : Nat → Int32} {sc : Nat → Int32} {mi : Nat → Int32} {bh : Nat → Int32} {mz : Nat} {oo : Nat → Int32} {ie : Nat → Int32} {mo : Nat} {mp : Int32} {mf : Int32} {mq : Int32} {ms : Nat} {mt : Int32} {mc : Int32} {no : Nat → Int32} {lf : Nat → Int32} {he : Nat → Int32} {pi : Nat → Int32} {ot : Nat → Int32} {bf : Nat → Int32} {ar : Nat → Int32} {md : Nat} (v x : Nat) (hv : v < 4) (hx : x < 4) (hs : mz < 40) : KM D (tyL cI cZ cJ) l yX5_call wsX5_call 1 23 [.ref (ad 0), .int (nI v), .int (nI x)] (wM ad cI cZ le la kd fs sc mi bh mz oo ie mo mp mf mq ms mt mc no lf he pi ot bf ar md) (some (.int (nI mz))) (wM ad cI cZ le la (upd kd mz (nI 1)) (upd fs mz (nI v)) (upd sc mz (nI x)) mi bh (mz + 1) oo ie mo mp mf mq ms (nI 0) mc no lf he pi ot bf ar md) := by
  refine KM.of (cc := cX5_call) (nL := 3) (ret := (some .int)) (by decide +kernel) rfl (Nat.le_of_ble_eq_true rfl) ?_
  have i5 : ∀ w ∈ u_ws RX5 TX5 25, w ∈ wsX5_call := by decide +kernel
  refine v_aload_n 1 rfl dX5_call_0 rfl rfl ?_
  refine v_iconst (v := nI 0) 2 rfl dX5_call_1 (by decide) ?_
  refine v_put (ci := 5) (C := RX5) (T := TX5) (ty0 := tyX5) (N := 25) (ty := .int) (w' := wM ad cI cZ le la kd fs sc mi bh mz oo ie mo mp mf mq ms (nI 0) mc no lf he pi ot bf ar md) 5 rfl 0 15 dX5_call_2 rfl (Nat.le_of_ble_eq_true rfl) i5 tyX5_ok nmX5 (by decide +kernel) rfl (by decide +kernel) rfl rfl rfl (Nat.le_of_ble_eq_true rfl) rfl ?_
  refine v_iload_n 6 rfl dX5_call_5 rfl rfl ?_
  refine v_iconst (v := nI 3) 7 rfl dX5_call_6 (by decide) ?_
  refine v_callS (n := 2) 10 rfl (m_withinT v 3 (by omega) (by omega)) gX5_call_X5_within rfl (by decide +kernel) rfl ⟨(Nat.le_of_ble_eq_true rfl), (Nat.le_of_ble_eq_true rfl)⟩ rfl (Nat.le_of_ble_eq_true rfl) dX5_call_7 ⟨Nat.zero_le _, Nat.zero_le _⟩ ?_
  refine v_st (st' := [.int (bI true)]) rfl ?_
  refine v_if_eqB (b := true) 31 13 rfl dX5_call_10 (by decide) (fun q => False.elim (by cases q)) (fun c10 => ?_)
  refine v_iload_n 14 rfl dX5_call_13 rfl rfl ?_
  refine v_iconst (v := nI 3) 15 rfl dX5_call_14 (by decide) ?_
  refine v_callS (n := 2) 18 rfl (m_withinT x 3 (by omega) (by omega)) gX5_call_X5_within rfl (by decide +kernel) rfl ⟨(Nat.le_of_ble_eq_true rfl), (Nat.le_of_ble_eq_true rfl)⟩ rfl (Nat.le_of_ble_eq_true rfl) dX5_call_15 ⟨Nat.zero_le _, Nat.zero_le _⟩ ?_
  refine v_st (st' := [.int (bI true)]) rfl ?_
  refine v_if_eqB (b := true) 31 21 rfl dX5_call_18 (by decide) (fun q => False.elim (by cases q)) (fun c18 => ?_)
  refine v_aload_n 22 rfl dX5_call_21 rfl rfl ?_
  refine v_iconst (v := nI 1) 23 rfl dX5_call_22 (by decide) ?_
  refine v_iload_n 24 rfl dX5_call_23 rfl rfl ?_
  refine v_iload_n 25 rfl dX5_call_24 rfl rfl ?_
  refine v_callF (n := 3) (q0 := 0) (ci := 5) 28 rfl (m_add (nI 1) (nI v) (nI x) hs) gX5_call_X5_add rfl (by decide +kernel) rfl ⟨(Nat.le_of_ble_eq_true rfl), (Nat.le_of_ble_eq_true rfl)⟩ rfl (Nat.le_of_ble_eq_true rfl) rfl rfl rfl dX5_call_25 ⟨Nat.zero_le _, Nat.zero_le _⟩ rfl ?_
  refine v_st (st' := [.int (nI mz)]) rfl ?_
  refine v_goto 32 dX5_call_28 (by decide) ?_
  exact v_iret dX5_call_32 rfl rfl rfl

set_option maxRecDepth 100000 in
set_option maxHeartbeats 4000000 in
theorem m_callF {D : va_G} {cI cZ cJ : ClassId} {l : Launch} {ad : Nat → Nat} {le : Nat → Int32} {la : Nat → Int32} {kd : Nat → Int32} {fs : Nat → Int32} {sc : Nat → Int32} {mi : Nat → Int32} {bh : Nat → Int32} {mz : Nat} {oo : Nat → Int32} {ie : Nat → Int32} {mo : Nat} {mp : Int32} {mf : Int32} {mq : Int32} {ms : Nat} {mt : Int32} {mc : Int32} {no : Nat → Int32} {lf : Nat → Int32} {he : Nat → Int32} {pi : Nat → Int32} {ot : Nat → Int32} {bf : Nat → Int32} {ar : Nat → Int32} {md : Nat} (v x : Nat) (hv : v < 4) (hx : x < 4) (hs : mz = 40) : KM D (tyL cI cZ cJ) l yX5_call wsX5_call 1 23 [.ref (ad 0), .int (nI v), .int (nI x)] (wM ad cI cZ le la kd fs sc mi bh mz oo ie mo mp mf mq ms mt mc no lf he pi ot bf ar md) (some (.int (-1))) (wM ad cI cZ le la kd fs sc mi bh mz oo ie mo mp mf mq ms (nI 0) mc no lf he pi ot bf ar md) := by
  refine KM.of (cc := cX5_call) (nL := 3) (ret := (some .int)) (by decide +kernel) rfl (Nat.le_of_ble_eq_true rfl) ?_
  have i5 : ∀ w ∈ u_ws RX5 TX5 25, w ∈ wsX5_call := by decide +kernel
  refine v_aload_n 1 rfl dX5_call_0 rfl rfl ?_
  refine v_iconst (v := nI 0) 2 rfl dX5_call_1 (by decide) ?_
  refine v_put (ci := 5) (C := RX5) (T := TX5) (ty0 := tyX5) (N := 25) (ty := .int) (w' := wM ad cI cZ le la kd fs sc mi bh mz oo ie mo mp mf mq ms (nI 0) mc no lf he pi ot bf ar md) 5 rfl 0 15 dX5_call_2 rfl (Nat.le_of_ble_eq_true rfl) i5 tyX5_ok nmX5 (by decide +kernel) rfl (by decide +kernel) rfl rfl rfl (Nat.le_of_ble_eq_true rfl) rfl ?_
  refine v_iload_n 6 rfl dX5_call_5 rfl rfl ?_
  refine v_iconst (v := nI 3) 7 rfl dX5_call_6 (by decide) ?_
  refine v_callS (n := 2) 10 rfl (m_withinT v 3 (by omega) (by omega)) gX5_call_X5_within rfl (by decide +kernel) rfl ⟨(Nat.le_of_ble_eq_true rfl), (Nat.le_of_ble_eq_true rfl)⟩ rfl (Nat.le_of_ble_eq_true rfl) dX5_call_7 ⟨Nat.zero_le _, Nat.zero_le _⟩ ?_
  refine v_st (st' := [.int (bI true)]) rfl ?_
  refine v_if_eqB (b := true) 31 13 rfl dX5_call_10 (by decide) (fun q => False.elim (by cases q)) (fun c10 => ?_)
  refine v_iload_n 14 rfl dX5_call_13 rfl rfl ?_
  refine v_iconst (v := nI 3) 15 rfl dX5_call_14 (by decide) ?_
  refine v_callS (n := 2) 18 rfl (m_withinT x 3 (by omega) (by omega)) gX5_call_X5_within rfl (by decide +kernel) rfl ⟨(Nat.le_of_ble_eq_true rfl), (Nat.le_of_ble_eq_true rfl)⟩ rfl (Nat.le_of_ble_eq_true rfl) dX5_call_15 ⟨Nat.zero_le _, Nat.zero_le _⟩ ?_
  refine v_st (st' := [.int (bI true)]) rfl ?_
  refine v_if_eqB (b := true) 31 21 rfl dX5_call_18 (by decide) (fun q => False.elim (by cases q)) (fun c18 => ?_)
  refine v_aload_n 22 rfl dX5_call_21 rfl rfl ?_
  refine v_iconst (v := nI 1) 23 rfl dX5_call_22 (by decide) ?_
  refine v_iload_n 24 rfl dX5_call_23 rfl rfl ?_
  refine v_iload_n 25 rfl dX5_call_24 rfl rfl ?_
  refine v_callF (n := 3) (q0 := 0) (ci := 5) 28 rfl (m_addF (nI 1) (nI v) (nI x) hs) gX5_call_X5_add rfl (by decide +kernel) rfl ⟨(Nat.le_of_ble_eq_true rfl), (Nat.le_of_ble_eq_true rfl)⟩ rfl (Nat.le_of_ble_eq_true rfl) rfl rfl rfl dX5_call_25 ⟨Nat.zero_le _, Nat.zero_le _⟩ rfl ?_
  refine v_st (st' := [.int (-1)]) rfl ?_
  refine v_goto 32 dX5_call_28 (by decide) ?_
  exact v_iret dX5_call_32 rfl rfl rfl

set_option maxRecDepth 100000 in
set_option maxHeartbeats 4000000 in
theorem m_callNo {D : va_G} {cI cZ cJ : ClassId} {l : Launch} {ad : Nat → Nat} {le : Nat → Int32} {la : Nat → Int32} {kd : Nat → Int32} {fs : Nat → Int32} {sc : Nat → Int32} {mi : Nat → Int32} {bh : Nat → Int32} {mz : Nat} {oo : Nat → Int32} {ie : Nat → Int32} {mo : Nat} {mp : Int32} {mf : Int32} {mq : Int32} {ms : Nat} {mt : Int32} {mc : Int32} {no : Nat → Int32} {lf : Nat → Int32} {he : Nat → Int32} {pi : Nat → Int32} {ot : Nat → Int32} {bf : Nat → Int32} {ar : Nat → Int32} {md : Nat} (v x : Int32) (h : (bel v (nI 4) && bel x (nI 4)) = false) : KM D (tyL cI cZ cJ) l yX5_call wsX5_call 1 21 [.ref (ad 0), .int v, .int x] (wM ad cI cZ le la kd fs sc mi bh mz oo ie mo mp mf mq ms mt mc no lf he pi ot bf ar md) (some (.int (-1))) (wM ad cI cZ le la kd fs sc mi bh mz oo ie mo mp mf mq ms (nI 0) mc no lf he pi ot bf ar md) := by
  refine KM.of (cc := cX5_call) (nL := 3) (ret := (some .int)) (by decide +kernel) rfl (Nat.le_of_ble_eq_true rfl) ?_
  have i5 : ∀ w ∈ u_ws RX5 TX5 25, w ∈ wsX5_call := by decide +kernel
  refine v_aload_n 1 rfl dX5_call_0 rfl rfl ?_
  refine v_iconst (v := nI 0) 2 rfl dX5_call_1 (by decide) ?_
  refine v_put (ci := 5) (C := RX5) (T := TX5) (ty0 := tyX5) (N := 25) (ty := .int) (w' := wM ad cI cZ le la kd fs sc mi bh mz oo ie mo mp mf mq ms (nI 0) mc no lf he pi ot bf ar md) 5 rfl 0 15 dX5_call_2 rfl (Nat.le_of_ble_eq_true rfl) i5 tyX5_ok nmX5 (by decide +kernel) rfl (by decide +kernel) rfl rfl rfl (Nat.le_of_ble_eq_true rfl) rfl ?_
  refine v_iload_n 6 rfl dX5_call_5 rfl rfl ?_
  refine v_iconst (v := nI 3) 7 rfl dX5_call_6 (by decide) ?_
  refine v_callS (n := 2) 10 rfl (m_withinB v 3 (by omega)) gX5_call_X5_within rfl (by decide +kernel) rfl ⟨(Nat.le_of_ble_eq_true rfl), (Nat.le_of_ble_eq_true rfl)⟩ rfl (Nat.le_of_ble_eq_true rfl) dX5_call_7 ⟨Nat.zero_le _, Nat.zero_le _⟩ ?_
  refine v_st (st' := [.int (bI (bel v (nI 4)))]) rfl ?_
  refine v_if_eqB (b := bel v (nI 4)) 31 13 rfl dX5_call_10 (by decide) (fun c10 => ?_) (fun c10 => ?_)
  · refine v_iconst (v := -1) 32 rfl dX5_call_31 (by decide) ?_
    exact v_iret dX5_call_32 rfl rfl rfl
  · refine v_iload_n 14 rfl dX5_call_13 rfl rfl ?_
    refine v_iconst (v := nI 3) 15 rfl dX5_call_14 (by decide) ?_
    refine v_callS (n := 2) 18 rfl (m_withinB x 3 (by omega)) gX5_call_X5_within rfl (by decide +kernel) rfl ⟨(Nat.le_of_ble_eq_true rfl), (Nat.le_of_ble_eq_true rfl)⟩ rfl (Nat.le_of_ble_eq_true rfl) dX5_call_15 ⟨Nat.zero_le _, Nat.zero_le _⟩ ?_
    refine v_st (st' := [.int (bI (bel x (nI 4)))]) rfl ?_
    refine v_if_eqB (b := bel x (nI 4)) 31 21 rfl dX5_call_18 (by decide) (fun c18 => ?_) (fun c18 => ?_)
    · refine v_iconst (v := -1) 32 rfl dX5_call_31 (by decide) ?_
      exact v_iret dX5_call_32 rfl rfl rfl
    · exact absurd h (by simp [*])

set_option maxRecDepth 100000 in
set_option maxHeartbeats 4000000 in
theorem m_move {D : va_G} {cI cZ cJ : ClassId} {l : Launch} {ad : Nat → Nat} {le : Nat → Int32} {la : Nat → Int32} {kd : Nat → Int32} {fs : Nat → Int32} {sc : Nat → Int32} {mi : Nat → Int32} {bh : Nat → Int32} {mz : Nat} {oo : Nat → Int32} {ie : Nat → Int32} {mo : Nat} {mp : Int32} {mf : Int32} {mq : Int32} {ms : Nat} {mt : Int32} {mc : Int32} {no : Nat → Int32} {lf : Nat → Int32} {he : Nat → Int32} {pi : Nat → Int32} {ot : Nat → Int32} {bf : Nat → Int32} {ar : Nat → Int32} {md : Nat} (v x : Nat) (hv : v < 4) (hx : x < 4) (hs : mz < 40) : KM D (tyL cI cZ cJ) l yX5_move wsX5_move 1 23 [.ref (ad 0), .int (nI v), .int (nI x)] (wM ad cI cZ le la kd fs sc mi bh mz oo ie mo mp mf mq ms mt mc no lf he pi ot bf ar md) (some (.int (nI mz))) (wM ad cI cZ le la (upd kd mz (nI 2)) (upd fs mz (nI v)) (upd sc mz (nI x)) mi bh (mz + 1) oo ie mo mp mf mq ms (nI 0) mc no lf he pi ot bf ar md) := by
  refine KM.of (cc := cX5_move) (nL := 3) (ret := (some .int)) (by decide +kernel) rfl (Nat.le_of_ble_eq_true rfl) ?_
  have i5 : ∀ w ∈ u_ws RX5 TX5 25, w ∈ wsX5_move := by decide +kernel
  refine v_aload_n 1 rfl dX5_move_0 rfl rfl ?_
  refine v_iconst (v := nI 0) 2 rfl dX5_move_1 (by decide) ?_
  refine v_put (ci := 5) (C := RX5) (T := TX5) (ty0 := tyX5) (N := 25) (ty := .int) (w' := wM ad cI cZ le la kd fs sc mi bh mz oo ie mo mp mf mq ms (nI 0) mc no lf he pi ot bf ar md) 5 rfl 0 15 dX5_move_2 rfl (Nat.le_of_ble_eq_true rfl) i5 tyX5_ok nmX5 (by decide +kernel) rfl (by decide +kernel) rfl rfl rfl (Nat.le_of_ble_eq_true rfl) rfl ?_
  refine v_iload_n 6 rfl dX5_move_5 rfl rfl ?_
  refine v_iconst (v := nI 3) 7 rfl dX5_move_6 (by decide) ?_
  refine v_callS (n := 2) 10 rfl (m_withinT v 3 (by omega) (by omega)) gX5_move_X5_within rfl (by decide +kernel) rfl ⟨(Nat.le_of_ble_eq_true rfl), (Nat.le_of_ble_eq_true rfl)⟩ rfl (Nat.le_of_ble_eq_true rfl) dX5_move_7 ⟨Nat.zero_le _, Nat.zero_le _⟩ ?_
  refine v_st (st' := [.int (bI true)]) rfl ?_
  refine v_if_eqB (b := true) 31 13 rfl dX5_move_10 (by decide) (fun q => False.elim (by cases q)) (fun c10 => ?_)
  refine v_iload_n 14 rfl dX5_move_13 rfl rfl ?_
  refine v_iconst (v := nI 3) 15 rfl dX5_move_14 (by decide) ?_
  refine v_callS (n := 2) 18 rfl (m_withinT x 3 (by omega) (by omega)) gX5_move_X5_within rfl (by decide +kernel) rfl ⟨(Nat.le_of_ble_eq_true rfl), (Nat.le_of_ble_eq_true rfl)⟩ rfl (Nat.le_of_ble_eq_true rfl) dX5_move_15 ⟨Nat.zero_le _, Nat.zero_le _⟩ ?_
  refine v_st (st' := [.int (bI true)]) rfl ?_
  refine v_if_eqB (b := true) 31 21 rfl dX5_move_18 (by decide) (fun q => False.elim (by cases q)) (fun c18 => ?_)
  refine v_aload_n 22 rfl dX5_move_21 rfl rfl ?_
  refine v_iconst (v := nI 2) 23 rfl dX5_move_22 (by decide) ?_
  refine v_iload_n 24 rfl dX5_move_23 rfl rfl ?_
  refine v_iload_n 25 rfl dX5_move_24 rfl rfl ?_
  refine v_callF (n := 3) (q0 := 0) (ci := 5) 28 rfl (m_add (nI 2) (nI v) (nI x) hs) gX5_move_X5_add rfl (by decide +kernel) rfl ⟨(Nat.le_of_ble_eq_true rfl), (Nat.le_of_ble_eq_true rfl)⟩ rfl (Nat.le_of_ble_eq_true rfl) rfl rfl rfl dX5_move_25 ⟨Nat.zero_le _, Nat.zero_le _⟩ rfl ?_
  refine v_st (st' := [.int (nI mz)]) rfl ?_
  refine v_goto 32 dX5_move_28 (by decide) ?_
  exact v_iret dX5_move_32 rfl rfl rfl

set_option maxRecDepth 100000 in
set_option maxHeartbeats 4000000 in
theorem m_moveF {D : va_G} {cI cZ cJ : ClassId} {l : Launch} {ad : Nat → Nat} {le : Nat → Int32} {la : Nat → Int32} {kd : Nat → Int32} {fs : Nat → Int32} {sc : Nat → Int32} {mi : Nat → Int32} {bh : Nat → Int32} {mz : Nat} {oo : Nat → Int32} {ie : Nat → Int32} {mo : Nat} {mp : Int32} {mf : Int32} {mq : Int32} {ms : Nat} {mt : Int32} {mc : Int32} {no : Nat → Int32} {lf : Nat → Int32} {he : Nat → Int32} {pi : Nat → Int32} {ot : Nat → Int32} {bf : Nat → Int32} {ar : Nat → Int32} {md : Nat} (v x : Nat) (hv : v < 4) (hx : x < 4) (hs : mz = 40) : KM D (tyL cI cZ cJ) l yX5_move wsX5_move 1 23 [.ref (ad 0), .int (nI v), .int (nI x)] (wM ad cI cZ le la kd fs sc mi bh mz oo ie mo mp mf mq ms mt mc no lf he pi ot bf ar md) (some (.int (-1))) (wM ad cI cZ le la kd fs sc mi bh mz oo ie mo mp mf mq ms (nI 0) mc no lf he pi ot bf ar md) := by
  refine KM.of (cc := cX5_move) (nL := 3) (ret := (some .int)) (by decide +kernel) rfl (Nat.le_of_ble_eq_true rfl) ?_
  have i5 : ∀ w ∈ u_ws RX5 TX5 25, w ∈ wsX5_move := by decide +kernel
  refine v_aload_n 1 rfl dX5_move_0 rfl rfl ?_
  refine v_iconst (v := nI 0) 2 rfl dX5_move_1 (by decide) ?_
  refine v_put (ci := 5) (C := RX5) (T := TX5) (ty0 := tyX5) (N := 25) (ty := .int) (w' := wM ad cI cZ le la kd fs sc mi bh mz oo ie mo mp mf mq ms (nI 0) mc no lf he pi ot bf ar md) 5 rfl 0 15 dX5_move_2 rfl (Nat.le_of_ble_eq_true rfl) i5 tyX5_ok nmX5 (by decide +kernel) rfl (by decide +kernel) rfl rfl rfl (Nat.le_of_ble_eq_true rfl) rfl ?_
  refine v_iload_n 6 rfl dX5_move_5 rfl rfl ?_
  refine v_iconst (v := nI 3) 7 rfl dX5_move_6 (by decide) ?_
  refine v_callS (n := 2) 10 rfl (m_withinT v 3 (by omega) (by omega)) gX5_move_X5_within rfl (by decide +kernel) rfl ⟨(Nat.le_of_ble_eq_true rfl), (Nat.le_of_ble_eq_true rfl)⟩ rfl (Nat.le_of_ble_eq_true rfl) dX5_move_7 ⟨Nat.zero_le _, Nat.zero_le _⟩ ?_
  refine v_st (st' := [.int (bI true)]) rfl ?_
  refine v_if_eqB (b := true) 31 13 rfl dX5_move_10 (by decide) (fun q => False.elim (by cases q)) (fun c10 => ?_)
  refine v_iload_n 14 rfl dX5_move_13 rfl rfl ?_
  refine v_iconst (v := nI 3) 15 rfl dX5_move_14 (by decide) ?_
  refine v_callS (n := 2) 18 rfl (m_withinT x 3 (by omega) (by omega)) gX5_move_X5_within rfl (by decide +kernel) rfl ⟨(Nat.le_of_ble_eq_true rfl), (Nat.le_of_ble_eq_true rfl)⟩ rfl (Nat.le_of_ble_eq_true rfl) dX5_move_15 ⟨Nat.zero_le _, Nat.zero_le _⟩ ?_
  refine v_st (st' := [.int (bI true)]) rfl ?_
  refine v_if_eqB (b := true) 31 21 rfl dX5_move_18 (by decide) (fun q => False.elim (by cases q)) (fun c18 => ?_)
  refine v_aload_n 22 rfl dX5_move_21 rfl rfl ?_
  refine v_iconst (v := nI 2) 23 rfl dX5_move_22 (by decide) ?_
  refine v_iload_n 24 rfl dX5_move_23 rfl rfl ?_
  refine v_iload_n 25 rfl dX5_move_24 rfl rfl ?_
  refine v_callF (n := 3) (q0 := 0) (ci := 5) 28 rfl (m_addF (nI 2) (nI v) (nI x) hs) gX5_move_X5_add rfl (by decide +kernel) rfl ⟨(Nat.le_of_ble_eq_true rfl), (Nat.le_of_ble_eq_true rfl)⟩ rfl (Nat.le_of_ble_eq_true rfl) rfl rfl rfl dX5_move_25 ⟨Nat.zero_le _, Nat.zero_le _⟩ rfl ?_
  refine v_st (st' := [.int (-1)]) rfl ?_
  refine v_goto 32 dX5_move_28 (by decide) ?_
  exact v_iret dX5_move_32 rfl rfl rfl

set_option maxRecDepth 100000 in
set_option maxHeartbeats 4000000 in
theorem m_moveNo {D : va_G} {cI cZ cJ : ClassId} {l : Launch} {ad : Nat → Nat} {le : Nat → Int32} {la : Nat → Int32} {kd : Nat → Int32} {fs : Nat → Int32} {sc : Nat → Int32} {mi : Nat → Int32} {bh : Nat → Int32} {mz : Nat} {oo : Nat → Int32} {ie : Nat → Int32} {mo : Nat} {mp : Int32} {mf : Int32} {mq : Int32} {ms : Nat} {mt : Int32} {mc : Int32} {no : Nat → Int32} {lf : Nat → Int32} {he : Nat → Int32} {pi : Nat → Int32} {ot : Nat → Int32} {bf : Nat → Int32} {ar : Nat → Int32} {md : Nat} (v x : Int32) (h : (bel v (nI 4) && bel x (nI 4)) = false) : KM D (tyL cI cZ cJ) l yX5_move wsX5_move 1 21 [.ref (ad 0), .int v, .int x] (wM ad cI cZ le la kd fs sc mi bh mz oo ie mo mp mf mq ms mt mc no lf he pi ot bf ar md) (some (.int (-1))) (wM ad cI cZ le la kd fs sc mi bh mz oo ie mo mp mf mq ms (nI 0) mc no lf he pi ot bf ar md) := by
  refine KM.of (cc := cX5_move) (nL := 3) (ret := (some .int)) (by decide +kernel) rfl (Nat.le_of_ble_eq_true rfl) ?_
  have i5 : ∀ w ∈ u_ws RX5 TX5 25, w ∈ wsX5_move := by decide +kernel
  refine v_aload_n 1 rfl dX5_move_0 rfl rfl ?_
  refine v_iconst (v := nI 0) 2 rfl dX5_move_1 (by decide) ?_
  refine v_put (ci := 5) (C := RX5) (T := TX5) (ty0 := tyX5) (N := 25) (ty := .int) (w' := wM ad cI cZ le la kd fs sc mi bh mz oo ie mo mp mf mq ms (nI 0) mc no lf he pi ot bf ar md) 5 rfl 0 15 dX5_move_2 rfl (Nat.le_of_ble_eq_true rfl) i5 tyX5_ok nmX5 (by decide +kernel) rfl (by decide +kernel) rfl rfl rfl (Nat.le_of_ble_eq_true rfl) rfl ?_
  refine v_iload_n 6 rfl dX5_move_5 rfl rfl ?_
  refine v_iconst (v := nI 3) 7 rfl dX5_move_6 (by decide) ?_
  refine v_callS (n := 2) 10 rfl (m_withinB v 3 (by omega)) gX5_move_X5_within rfl (by decide +kernel) rfl ⟨(Nat.le_of_ble_eq_true rfl), (Nat.le_of_ble_eq_true rfl)⟩ rfl (Nat.le_of_ble_eq_true rfl) dX5_move_7 ⟨Nat.zero_le _, Nat.zero_le _⟩ ?_
  refine v_st (st' := [.int (bI (bel v (nI 4)))]) rfl ?_
  refine v_if_eqB (b := bel v (nI 4)) 31 13 rfl dX5_move_10 (by decide) (fun c10 => ?_) (fun c10 => ?_)
  · refine v_iconst (v := -1) 32 rfl dX5_move_31 (by decide) ?_
    exact v_iret dX5_move_32 rfl rfl rfl
  · refine v_iload_n 14 rfl dX5_move_13 rfl rfl ?_
    refine v_iconst (v := nI 3) 15 rfl dX5_move_14 (by decide) ?_
    refine v_callS (n := 2) 18 rfl (m_withinB x 3 (by omega)) gX5_move_X5_within rfl (by decide +kernel) rfl ⟨(Nat.le_of_ble_eq_true rfl), (Nat.le_of_ble_eq_true rfl)⟩ rfl (Nat.le_of_ble_eq_true rfl) dX5_move_15 ⟨Nat.zero_le _, Nat.zero_le _⟩ ?_
    refine v_st (st' := [.int (bI (bel x (nI 4)))]) rfl ?_
    refine v_if_eqB (b := bel x (nI 4)) 31 21 rfl dX5_move_18 (by decide) (fun c18 => ?_) (fun c18 => ?_)
    · refine v_iconst (v := -1) 32 rfl dX5_move_31 (by decide) ?_
      exact v_iret dX5_move_32 rfl rfl rfl
    · exact absurd h (by simp [*])

set_option maxRecDepth 100000 in
set_option maxHeartbeats 4000000 in
theorem m_drop {D : va_G} {cI cZ cJ : ClassId} {l : Launch} {ad : Nat → Nat} {le : Nat → Int32} {la : Nat → Int32} {kd : Nat → Int32} {fs : Nat → Int32} {sc : Nat → Int32} {mi : Nat → Int32} {bh : Nat → Int32} {mz : Nat} {oo : Nat → Int32} {ie : Nat → Int32} {mo : Nat} {mp : Int32} {mf : Int32} {mq : Int32} {ms : Nat} {mt : Int32} {mc : Int32} {no : Nat → Int32} {lf : Nat → Int32} {he : Nat → Int32} {pi : Nat → Int32} {ot : Nat → Int32} {bf : Nat → Int32} {ar : Nat → Int32} {md : Nat} (v : Nat) (hv : v < 4) (hs : mz < 40) : KM D (tyL cI cZ cJ) l yX5_drop wsX5_drop 1 23 [.ref (ad 0), .int (nI v)] (wM ad cI cZ le la kd fs sc mi bh mz oo ie mo mp mf mq ms mt mc no lf he pi ot bf ar md) (some (.int (nI mz))) (wM ad cI cZ le la (upd kd mz (nI 3)) (upd fs mz (nI v)) (upd sc mz (nI 0)) mi bh (mz + 1) oo ie mo mp mf mq ms (nI 0) mc no lf he pi ot bf ar md) := by
  refine KM.of (cc := cX5_drop) (nL := 2) (ret := (some .int)) (by decide +kernel) rfl (Nat.le_of_ble_eq_true rfl) ?_
  have i5 : ∀ w ∈ u_ws RX5 TX5 25, w ∈ wsX5_drop := by decide +kernel
  refine v_aload_n 1 rfl dX5_drop_0 rfl rfl ?_
  refine v_iconst (v := nI 0) 2 rfl dX5_drop_1 (by decide) ?_
  refine v_put (ci := 5) (C := RX5) (T := TX5) (ty0 := tyX5) (N := 25) (ty := .int) (w' := wM ad cI cZ le la kd fs sc mi bh mz oo ie mo mp mf mq ms (nI 0) mc no lf he pi ot bf ar md) 5 rfl 0 15 dX5_drop_2 rfl (Nat.le_of_ble_eq_true rfl) i5 tyX5_ok nmX5 (by decide +kernel) rfl (by decide +kernel) rfl rfl rfl (Nat.le_of_ble_eq_true rfl) rfl ?_
  refine v_iload_n 6 rfl dX5_drop_5 rfl rfl ?_
  refine v_iconst (v := nI 3) 7 rfl dX5_drop_6 (by decide) ?_
  refine v_callS (n := 2) 10 rfl (m_withinT v 3 (by omega) (by omega)) gX5_drop_X5_within rfl (by decide +kernel) rfl ⟨(Nat.le_of_ble_eq_true rfl), (Nat.le_of_ble_eq_true rfl)⟩ rfl (Nat.le_of_ble_eq_true rfl) dX5_drop_7 ⟨Nat.zero_le _, Nat.zero_le _⟩ ?_
  refine v_st (st' := [.int (bI true)]) rfl ?_
  refine v_if_eqB (b := true) 23 13 rfl dX5_drop_10 (by decide) (fun q => False.elim (by cases q)) (fun c10 => ?_)
  refine v_aload_n 14 rfl dX5_drop_13 rfl rfl ?_
  refine v_iconst (v := nI 3) 15 rfl dX5_drop_14 (by decide) ?_
  refine v_iload_n 16 rfl dX5_drop_15 rfl rfl ?_
  refine v_iconst (v := nI 0) 17 rfl dX5_drop_16 (by decide) ?_
  refine v_callF (n := 3) (q0 := 0) (ci := 5) 20 rfl (m_add (nI 3) (nI v) (nI 0) hs) gX5_drop_X5_add rfl (by decide +kernel) rfl ⟨(Nat.le_of_ble_eq_true rfl), (Nat.le_of_ble_eq_true rfl)⟩ rfl (Nat.le_of_ble_eq_true rfl) rfl rfl rfl dX5_drop_17 ⟨Nat.zero_le _, Nat.zero_le _⟩ rfl ?_
  refine v_st (st' := [.int (nI mz)]) rfl ?_
  refine v_goto 24 dX5_drop_20 (by decide) ?_
  exact v_iret dX5_drop_24 rfl rfl rfl

set_option maxRecDepth 100000 in
set_option maxHeartbeats 4000000 in
theorem m_dropF {D : va_G} {cI cZ cJ : ClassId} {l : Launch} {ad : Nat → Nat} {le : Nat → Int32} {la : Nat → Int32} {kd : Nat → Int32} {fs : Nat → Int32} {sc : Nat → Int32} {mi : Nat → Int32} {bh : Nat → Int32} {mz : Nat} {oo : Nat → Int32} {ie : Nat → Int32} {mo : Nat} {mp : Int32} {mf : Int32} {mq : Int32} {ms : Nat} {mt : Int32} {mc : Int32} {no : Nat → Int32} {lf : Nat → Int32} {he : Nat → Int32} {pi : Nat → Int32} {ot : Nat → Int32} {bf : Nat → Int32} {ar : Nat → Int32} {md : Nat} (v : Nat) (hv : v < 4) (hs : mz = 40) : KM D (tyL cI cZ cJ) l yX5_drop wsX5_drop 1 23 [.ref (ad 0), .int (nI v)] (wM ad cI cZ le la kd fs sc mi bh mz oo ie mo mp mf mq ms mt mc no lf he pi ot bf ar md) (some (.int (-1))) (wM ad cI cZ le la kd fs sc mi bh mz oo ie mo mp mf mq ms (nI 0) mc no lf he pi ot bf ar md) := by
  refine KM.of (cc := cX5_drop) (nL := 2) (ret := (some .int)) (by decide +kernel) rfl (Nat.le_of_ble_eq_true rfl) ?_
  have i5 : ∀ w ∈ u_ws RX5 TX5 25, w ∈ wsX5_drop := by decide +kernel
  refine v_aload_n 1 rfl dX5_drop_0 rfl rfl ?_
  refine v_iconst (v := nI 0) 2 rfl dX5_drop_1 (by decide) ?_
  refine v_put (ci := 5) (C := RX5) (T := TX5) (ty0 := tyX5) (N := 25) (ty := .int) (w' := wM ad cI cZ le la kd fs sc mi bh mz oo ie mo mp mf mq ms (nI 0) mc no lf he pi ot bf ar md) 5 rfl 0 15 dX5_drop_2 rfl (Nat.le_of_ble_eq_true rfl) i5 tyX5_ok nmX5 (by decide +kernel) rfl (by decide +kernel) rfl rfl rfl (Nat.le_of_ble_eq_true rfl) rfl ?_
  refine v_iload_n 6 rfl dX5_drop_5 rfl rfl ?_
  refine v_iconst (v := nI 3) 7 rfl dX5_drop_6 (by decide) ?_
  refine v_callS (n := 2) 10 rfl (m_withinT v 3 (by omega) (by omega)) gX5_drop_X5_within rfl (by decide +kernel) rfl ⟨(Nat.le_of_ble_eq_true rfl), (Nat.le_of_ble_eq_true rfl)⟩ rfl (Nat.le_of_ble_eq_true rfl) dX5_drop_7 ⟨Nat.zero_le _, Nat.zero_le _⟩ ?_
  refine v_st (st' := [.int (bI true)]) rfl ?_
  refine v_if_eqB (b := true) 23 13 rfl dX5_drop_10 (by decide) (fun q => False.elim (by cases q)) (fun c10 => ?_)
  refine v_aload_n 14 rfl dX5_drop_13 rfl rfl ?_
  refine v_iconst (v := nI 3) 15 rfl dX5_drop_14 (by decide) ?_
  refine v_iload_n 16 rfl dX5_drop_15 rfl rfl ?_
  refine v_iconst (v := nI 0) 17 rfl dX5_drop_16 (by decide) ?_
  refine v_callF (n := 3) (q0 := 0) (ci := 5) 20 rfl (m_addF (nI 3) (nI v) (nI 0) hs) gX5_drop_X5_add rfl (by decide +kernel) rfl ⟨(Nat.le_of_ble_eq_true rfl), (Nat.le_of_ble_eq_true rfl)⟩ rfl (Nat.le_of_ble_eq_true rfl) rfl rfl rfl dX5_drop_17 ⟨Nat.zero_le _, Nat.zero_le _⟩ rfl ?_
  refine v_st (st' := [.int (-1)]) rfl ?_
  refine v_goto 24 dX5_drop_20 (by decide) ?_
  exact v_iret dX5_drop_24 rfl rfl rfl

set_option maxRecDepth 100000 in
set_option maxHeartbeats 4000000 in
theorem m_dropNo {D : va_G} {cI cZ cJ : ClassId} {l : Launch} {ad : Nat → Nat} {le : Nat → Int32} {la : Nat → Int32} {kd : Nat → Int32} {fs : Nat → Int32} {sc : Nat → Int32} {mi : Nat → Int32} {bh : Nat → Int32} {mz : Nat} {oo : Nat → Int32} {ie : Nat → Int32} {mo : Nat} {mp : Int32} {mf : Int32} {mq : Int32} {ms : Nat} {mt : Int32} {mc : Int32} {no : Nat → Int32} {lf : Nat → Int32} {he : Nat → Int32} {pi : Nat → Int32} {ot : Nat → Int32} {bf : Nat → Int32} {ar : Nat → Int32} {md : Nat} (v : Int32) (h : bel v (nI 4) = false) : KM D (tyL cI cZ cJ) l yX5_drop wsX5_drop 1 21 [.ref (ad 0), .int v] (wM ad cI cZ le la kd fs sc mi bh mz oo ie mo mp mf mq ms mt mc no lf he pi ot bf ar md) (some (.int (-1))) (wM ad cI cZ le la kd fs sc mi bh mz oo ie mo mp mf mq ms (nI 0) mc no lf he pi ot bf ar md) := by
  refine KM.of (cc := cX5_drop) (nL := 2) (ret := (some .int)) (by decide +kernel) rfl (Nat.le_of_ble_eq_true rfl) ?_
  have i5 : ∀ w ∈ u_ws RX5 TX5 25, w ∈ wsX5_drop := by decide +kernel
  refine v_aload_n 1 rfl dX5_drop_0 rfl rfl ?_
  refine v_iconst (v := nI 0) 2 rfl dX5_drop_1 (by decide) ?_
  refine v_put (ci := 5) (C := RX5) (T := TX5) (ty0 := tyX5) (N := 25) (ty := .int) (w' := wM ad cI cZ le la kd fs sc mi bh mz oo ie mo mp mf mq ms (nI 0) mc no lf he pi ot bf ar md) 5 rfl 0 15 dX5_drop_2 rfl (Nat.le_of_ble_eq_true rfl) i5 tyX5_ok nmX5 (by decide +kernel) rfl (by decide +kernel) rfl rfl rfl (Nat.le_of_ble_eq_true rfl) rfl ?_
  refine v_iload_n 6 rfl dX5_drop_5 rfl rfl ?_
  refine v_iconst (v := nI 3) 7 rfl dX5_drop_6 (by decide) ?_
  refine v_callS (n := 2) 10 rfl (m_withinB v 3 (by omega)) gX5_drop_X5_within rfl (by decide +kernel) rfl ⟨(Nat.le_of_ble_eq_true rfl), (Nat.le_of_ble_eq_true rfl)⟩ rfl (Nat.le_of_ble_eq_true rfl) dX5_drop_7 ⟨Nat.zero_le _, Nat.zero_le _⟩ ?_
  refine v_st (st' := [.int (bI (bel v (nI 4)))]) rfl ?_
  refine v_if_eqB (b := bel v (nI 4)) 23 13 rfl dX5_drop_10 (by decide) (fun c10 => ?_) (fun q => False.elim (by rw [h] at q; cases q))
  refine v_iconst (v := -1) 24 rfl dX5_drop_23 (by decide) ?_
  exact v_iret dX5_drop_24 rfl rfl rfl

set_option maxRecDepth 100000 in
set_option maxHeartbeats 4000000 in
theorem m_begin {D : va_G} {cI cZ cJ : ClassId} {l : Launch} {ad : Nat → Nat} {le : Nat → Int32} {la : Nat → Int32} {kd : Nat → Int32} {fs : Nat → Int32} {sc : Nat → Int32} {mi : Nat → Int32} {bh : Nat → Int32} {mz : Nat} {oo : Nat → Int32} {ie : Nat → Int32} {mo : Nat} {mp : Int32} {mf : Int32} {mq : Int32} {ms : Nat} {mt : Int32} {mc : Int32} {no : Nat → Int32} {lf : Nat → Int32} {he : Nat → Int32} {pi : Nat → Int32} {ot : Nat → Int32} {bf : Nat → Int32} {ar : Nat → Int32} {md : Nat} (k : Int32) (hs : mz < 40) (ho : mo < 6) : KM D (tyL cI cZ cJ) l yX5_begin wsX5_begin 1 23 [.ref (ad 0), .int k] (wM ad cI cZ le la kd fs sc mi bh mz oo ie mo mp mf mq ms mt mc no lf he pi ot bf ar md) (some (.int (nI mz))) (wM ad cI cZ le la (upd kd mz k) (upd fs mz (nI 0)) (upd sc mz (nI 0)) mi bh (mz + 1) (upd oo mo (nI mz)) (upd ie mo (bI false)) (mo + 1) mp mf mq ms mt mc no lf he pi ot bf ar md) := by
  refine KM.of (cc := cX5_begin) (nL := 3) (ret := (some .int)) (by decide +kernel) rfl (Nat.le_of_ble_eq_true rfl) ?_
  have i5 : ∀ w ∈ u_ws RX5 TX5 25, w ∈ wsX5_begin := by decide +kernel
  refine v_aload_n 1 rfl dX5_begin_0 rfl rfl ?_
  refine v_get (ci := 5) (C := RX5) (T := TX5) (N := 25) (v := .int (nI mo)) 4 rfl 0 10 dX5_begin_1 rfl (Nat.le_of_ble_eq_true rfl) i5 (by decide +kernel) rfl rfl ?_
  refine v_bipush (v := nI 6) 6 rfl dX5_begin_4 (by decide) ?_
  refine v_icmp_neN (a := mo) (b := 6) 11 9 rfl dX5_begin_6 (by decide) (by omega) (by omega) (fun c6 => ?_) (fun q => False.elim (by omega))
  refine v_aload_n 12 rfl dX5_begin_11 rfl rfl ?_
  refine v_iload_n 13 rfl dX5_begin_12 rfl rfl ?_
  refine v_iconst (v := nI 0) 14 rfl dX5_begin_13 (by decide) ?_
  refine v_iconst (v := nI 0) 15 rfl dX5_begin_14 (by decide) ?_
  refine v_callF (n := 3) (q0 := 0) (ci := 5) 18 rfl (m_add k (nI 0) (nI 0) hs) gX5_begin_X5_add rfl (by decide +kernel) rfl ⟨(Nat.le_of_ble_eq_true rfl), (Nat.le_of_ble_eq_true rfl)⟩ rfl (Nat.le_of_ble_eq_true rfl) rfl rfl rfl dX5_begin_15 ⟨Nat.zero_le _, Nat.zero_le _⟩ rfl ?_
  refine v_st (st' := [.int (nI mz)]) rfl ?_
  refine v_istore_n (lv' := [(2, .int (nI mz)), (0, .ref (ad 0)), (1, .int k)]) 19 rfl dX5_begin_18 rfl (Nat.le_of_ble_eq_true rfl) rfl ?_
  refine v_iload_n 20 rfl dX5_begin_19 rfl rfl ?_
  refine v_if_ltN (a := mz) 53 23 rfl dX5_begin_20 (by decide) (by omega) ?_
  refine v_aload_n 24 rfl dX5_begin_23 rfl rfl ?_
  refine v_get (ci := 5) (C := RX5) (T := TX5) (N := 25) (v := .ref (ad 8)) 27 rfl 0 8 dX5_begin_24 rfl (Nat.le_of_ble_eq_true rfl) i5 (by decide +kernel) rfl rfl ?_
  refine v_aload_n 28 rfl dX5_begin_27 rfl rfl ?_
  refine v_get (ci := 5) (C := RX5) (T := TX5) (N := 25) (v := .int (nI mo)) 31 rfl 0 10 dX5_begin_28 rfl (Nat.le_of_ble_eq_true rfl) i5 (by decide +kernel) rfl rfl ?_
  refine v_iload_n 32 rfl dX5_begin_31 rfl rfl ?_
  refine v_iast (j := mo) (w' := wM ad cI cZ le la (upd kd mz k) (upd fs mz (nI 0)) (upd sc mz (nI 0)) mi bh (mz + 1) (upd oo mo (nI mz)) ie mo mp mf mq ms mt mc no lf he pi ot bf ar md) 33 rfl 8 0 dX5_begin_32 rfl rfl (by omega) (by decide) rfl ?_
  refine v_aload_n 34 rfl dX5_begin_33 rfl rfl ?_
  refine v_get (ci := 5) (C := RX5) (T := TX5) (N := 25) (v := .ref (ad 9)) 37 rfl 0 9 dX5_begin_34 rfl (Nat.le_of_ble_eq_true rfl) i5 (by decide +kernel) rfl rfl ?_
  refine v_aload_n 38 rfl dX5_begin_37 rfl rfl ?_
  refine v_get (ci := 5) (C := RX5) (T := TX5) (N := 25) (v := .int (nI mo)) 41 rfl 0 10 dX5_begin_38 rfl (Nat.le_of_ble_eq_true rfl) i5 (by decide +kernel) rfl rfl ?_
  refine v_iconst (v := bI false) 42 rfl dX5_begin_41 (by decide) ?_
  refine v_zast (j := mo) (b := false) (w' := wM ad cI cZ le la (upd kd mz k) (upd fs mz (nI 0)) (upd sc mz (nI 0)) mi bh (mz + 1) (upd oo mo (nI mz)) (upd ie mo (bI false)) mo mp mf mq ms mt mc no lf he pi ot bf ar md) 43 rfl 9 1 dX5_begin_42 rfl rfl (by omega) (by decide) rfl ?_
  refine v_aload_n 44 rfl dX5_begin_43 rfl rfl ?_
  refine v_aload_n 45 rfl dX5_begin_44 rfl rfl ?_
  refine v_get (ci := 5) (C := RX5) (T := TX5) (N := 25) (v := .int (nI mo)) 48 rfl 0 10 dX5_begin_45 rfl (Nat.le_of_ble_eq_true rfl) i5 (by decide +kernel) rfl rfl ?_
  refine v_iconst (v := nI 1) 49 rfl dX5_begin_48 (by decide) ?_
  refine v_iaddN (a := mo) (b := 1) 50 rfl dX5_begin_49 ?_
  refine v_put (ci := 5) (C := RX5) (T := TX5) (ty0 := tyX5) (N := 25) (ty := .int) (w' := wM ad cI cZ le la (upd kd mz k) (upd fs mz (nI 0)) (upd sc mz (nI 0)) mi bh (mz + 1) (upd oo mo (nI mz)) (upd ie mo (bI false)) (mo + 1) mp mf mq ms mt mc no lf he pi ot bf ar md) 53 rfl 0 10 dX5_begin_50 rfl (Nat.le_of_ble_eq_true rfl) i5 tyX5_ok nmX5 (by decide +kernel) rfl (by decide +kernel) rfl rfl rfl (Nat.le_of_ble_eq_true rfl) rfl ?_
  refine v_iload_n 54 rfl dX5_begin_53 rfl rfl ?_
  exact v_iret dX5_begin_54 rfl rfl rfl

set_option maxRecDepth 100000 in
set_option maxHeartbeats 4000000 in
theorem m_begin6 {D : va_G} {cI cZ cJ : ClassId} {l : Launch} {ad : Nat → Nat} {le : Nat → Int32} {la : Nat → Int32} {kd : Nat → Int32} {fs : Nat → Int32} {sc : Nat → Int32} {mi : Nat → Int32} {bh : Nat → Int32} {mz : Nat} {oo : Nat → Int32} {ie : Nat → Int32} {mo : Nat} {mp : Int32} {mf : Int32} {mq : Int32} {ms : Nat} {mt : Int32} {mc : Int32} {no : Nat → Int32} {lf : Nat → Int32} {he : Nat → Int32} {pi : Nat → Int32} {ot : Nat → Int32} {bf : Nat → Int32} {ar : Nat → Int32} {md : Nat} (k : Int32) (ho : mo = 6) : KM D (tyL cI cZ cJ) l yX5_begin wsX5_begin 0 0 [.ref (ad 0), .int k] (wM ad cI cZ le la kd fs sc mi bh mz oo ie mo mp mf mq ms mt mc no lf he pi ot bf ar md) (some (.int (-1))) (wM ad cI cZ le la kd fs sc mi bh mz oo ie mo mp mf mq ms mt mc no lf he pi ot bf ar md) := by
  refine KM.of (cc := cX5_begin) (nL := 3) (ret := (some .int)) (by decide +kernel) rfl (Nat.le_of_ble_eq_true rfl) ?_
  have i5 : ∀ w ∈ u_ws RX5 TX5 25, w ∈ wsX5_begin := by decide +kernel
  refine v_aload_n 1 rfl dX5_begin_0 rfl rfl ?_
  refine v_get (ci := 5) (C := RX5) (T := TX5) (N := 25) (v := .int (nI mo)) 4 rfl 0 10 dX5_begin_1 rfl (Nat.le_of_ble_eq_true rfl) i5 (by decide +kernel) rfl rfl ?_
  refine v_bipush (v := nI 6) 6 rfl dX5_begin_4 (by decide) ?_
  refine v_icmp_neN (a := mo) (b := 6) 11 9 rfl dX5_begin_6 (by decide) (by omega) (by omega) (fun q => False.elim (by omega)) (fun c6 => ?_)
  refine v_iconst (v := -1) 10 rfl dX5_begin_9 (by decide) ?_
  exact v_iret dX5_begin_10 rfl rfl rfl

set_option maxRecDepth 100000 in
set_option maxHeartbeats 4000000 in
theorem m_beginF {D : va_G} {cI cZ cJ : ClassId} {l : Launch} {ad : Nat → Nat} {le : Nat → Int32} {la : Nat → Int32} {kd : Nat → Int32} {fs : Nat → Int32} {sc : Nat → Int32} {mi : Nat → Int32} {bh : Nat → Int32} {mz : Nat} {oo : Nat → Int32} {ie : Nat → Int32} {mo : Nat} {mp : Int32} {mf : Int32} {mq : Int32} {ms : Nat} {mt : Int32} {mc : Int32} {no : Nat → Int32} {lf : Nat → Int32} {he : Nat → Int32} {pi : Nat → Int32} {ot : Nat → Int32} {bf : Nat → Int32} {ar : Nat → Int32} {md : Nat} (k : Int32) (hs : mz = 40) (ho : mo < 6) : KM D (tyL cI cZ cJ) l yX5_begin wsX5_begin 1 23 [.ref (ad 0), .int k] (wM ad cI cZ le la kd fs sc mi bh mz oo ie mo mp mf mq ms mt mc no lf he pi ot bf ar md) (some (.int (-1))) (wM ad cI cZ le la kd fs sc mi bh mz oo ie mo mp mf mq ms mt mc no lf he pi ot bf ar md) := by
  refine KM.of (cc := cX5_begin) (nL := 3) (ret := (some .int)) (by decide +kernel) rfl (Nat.le_of_ble_eq_true rfl) ?_
  have i5 : ∀ w ∈ u_ws RX5 TX5 25, w ∈ wsX5_begin := by decide +kernel
  refine v_aload_n 1 rfl dX5_begin_0 rfl rfl ?_
  refine v_get (ci := 5) (C := RX5) (T := TX5) (N := 25) (v := .int (nI mo)) 4 rfl 0 10 dX5_begin_1 rfl (Nat.le_of_ble_eq_true rfl) i5 (by decide +kernel) rfl rfl ?_
  refine v_bipush (v := nI 6) 6 rfl dX5_begin_4 (by decide) ?_
  refine v_icmp_neN (a := mo) (b := 6) 11 9 rfl dX5_begin_6 (by decide) (by omega) (by omega) (fun c6 => ?_) (fun q => False.elim (by omega))
  refine v_aload_n 12 rfl dX5_begin_11 rfl rfl ?_
  refine v_iload_n 13 rfl dX5_begin_12 rfl rfl ?_
  refine v_iconst (v := nI 0) 14 rfl dX5_begin_13 (by decide) ?_
  refine v_iconst (v := nI 0) 15 rfl dX5_begin_14 (by decide) ?_
  refine v_callF (n := 3) (q0 := 0) (ci := 5) 18 rfl (m_addF k (nI 0) (nI 0) hs) gX5_begin_X5_add rfl (by decide +kernel) rfl ⟨(Nat.le_of_ble_eq_true rfl), (Nat.le_of_ble_eq_true rfl)⟩ rfl (Nat.le_of_ble_eq_true rfl) rfl rfl rfl dX5_begin_15 ⟨Nat.zero_le _, Nat.zero_le _⟩ rfl ?_
  refine v_st (st' := [.int (-1)]) rfl ?_
  refine v_istore_n (lv' := [(2, .int (-1)), (0, .ref (ad 0)), (1, .int k)]) 19 rfl dX5_begin_18 rfl (Nat.le_of_ble_eq_true rfl) rfl ?_
  refine v_iload_n 20 rfl dX5_begin_19 rfl rfl ?_
  refine v_if_lt 53 23 rfl dX5_begin_20 (by decide) (fun c20 => ?_) (fun q => False.elim (by exact absurd (by decide) q))
  refine v_iload_n 54 rfl dX5_begin_53 rfl rfl ?_
  exact v_iret dX5_begin_54 rfl rfl rfl

set_option maxRecDepth 100000 in
set_option maxHeartbeats 4000000 in
theorem m_choose {D : va_G} {cI cZ cJ : ClassId} {l : Launch} {ad : Nat → Nat} {le : Nat → Int32} {la : Nat → Int32} {kd : Nat → Int32} {fs : Nat → Int32} {sc : Nat → Int32} {mi : Nat → Int32} {bh : Nat → Int32} {mz : Nat} {oo : Nat → Int32} {ie : Nat → Int32} {mo : Nat} {mp : Int32} {mf : Int32} {mq : Int32} {ms : Nat} {mt : Int32} {mc : Int32} {no : Nat → Int32} {lf : Nat → Int32} {he : Nat → Int32} {pi : Nat → Int32} {ot : Nat → Int32} {bf : Nat → Int32} {ar : Nat → Int32} {md : Nat} (hs : mz < 40) (ho : mo < 6) : KM D (tyL cI cZ cJ) l yX5_choose wsX5_choose 2 45 [.ref (ad 0)] (wM ad cI cZ le la kd fs sc mi bh mz oo ie mo mp mf mq ms mt mc no lf he pi ot bf ar md) (some (.int (nI mz))) (wM ad cI cZ le la (upd kd mz (nI 4)) (upd fs mz (nI 0)) (upd sc mz (nI 0)) mi bh (mz + 1) (upd oo mo (nI mz)) (upd ie mo (bI false)) (mo + 1) mp mf mq ms (nI 0) mc no lf he pi ot bf ar md) := by
  refine KM.of (cc := cX5_choose) (nL := 1) (ret := (some .int)) (by decide +kernel) rfl (Nat.le_of_ble_eq_true rfl) ?_
  have i5 : ∀ w ∈ u_ws RX5 TX5 25, w ∈ wsX5_choose := by decide +kernel
  refine v_aload_n 1 rfl dX5_choose_0 rfl rfl ?_
  refine v_iconst (v := nI 0) 2 rfl dX5_choose_1 (by decide) ?_
  refine v_put (ci := 5) (C := RX5) (T := TX5) (ty0 := tyX5) (N := 25) (ty := .int) (w' := wM ad cI cZ le la kd fs sc mi bh mz oo ie mo mp mf mq ms (nI 0) mc no lf he pi ot bf ar md) 5 rfl 0 15 dX5_choose_2 rfl (Nat.le_of_ble_eq_true rfl) i5 tyX5_ok nmX5 (by decide +kernel) rfl (by decide +kernel) rfl rfl rfl (Nat.le_of_ble_eq_true rfl) rfl ?_
  refine v_aload_n 6 rfl dX5_choose_5 rfl rfl ?_
  refine v_iconst (v := nI 4) 7 rfl dX5_choose_6 (by decide) ?_
  refine v_callF (n := 1) (q0 := 0) (ci := 5) 10 rfl (m_begin (nI 4) hs ho) gX5_choose_X5_begin rfl (by decide +kernel) rfl ⟨(Nat.le_of_ble_eq_true rfl), (Nat.le_of_ble_eq_true rfl)⟩ rfl (Nat.le_of_ble_eq_true rfl) rfl rfl rfl dX5_choose_7 ⟨Nat.zero_le _, Nat.zero_le _⟩ rfl ?_
  refine v_st (st' := [.int (nI mz)]) rfl ?_
  exact v_iret dX5_choose_10 rfl rfl rfl

set_option maxRecDepth 100000 in
set_option maxHeartbeats 4000000 in
theorem m_choose6 {D : va_G} {cI cZ cJ : ClassId} {l : Launch} {ad : Nat → Nat} {le : Nat → Int32} {la : Nat → Int32} {kd : Nat → Int32} {fs : Nat → Int32} {sc : Nat → Int32} {mi : Nat → Int32} {bh : Nat → Int32} {mz : Nat} {oo : Nat → Int32} {ie : Nat → Int32} {mo : Nat} {mp : Int32} {mf : Int32} {mq : Int32} {ms : Nat} {mt : Int32} {mc : Int32} {no : Nat → Int32} {lf : Nat → Int32} {he : Nat → Int32} {pi : Nat → Int32} {ot : Nat → Int32} {bf : Nat → Int32} {ar : Nat → Int32} {md : Nat} (ho : mo = 6) : KM D (tyL cI cZ cJ) l yX5_choose wsX5_choose 1 22 [.ref (ad 0)] (wM ad cI cZ le la kd fs sc mi bh mz oo ie mo mp mf mq ms mt mc no lf he pi ot bf ar md) (some (.int (-1))) (wM ad cI cZ le la kd fs sc mi bh mz oo ie mo mp mf mq ms (nI 0) mc no lf he pi ot bf ar md) := by
  refine KM.of (cc := cX5_choose) (nL := 1) (ret := (some .int)) (by decide +kernel) rfl (Nat.le_of_ble_eq_true rfl) ?_
  have i5 : ∀ w ∈ u_ws RX5 TX5 25, w ∈ wsX5_choose := by decide +kernel
  refine v_aload_n 1 rfl dX5_choose_0 rfl rfl ?_
  refine v_iconst (v := nI 0) 2 rfl dX5_choose_1 (by decide) ?_
  refine v_put (ci := 5) (C := RX5) (T := TX5) (ty0 := tyX5) (N := 25) (ty := .int) (w' := wM ad cI cZ le la kd fs sc mi bh mz oo ie mo mp mf mq ms (nI 0) mc no lf he pi ot bf ar md) 5 rfl 0 15 dX5_choose_2 rfl (Nat.le_of_ble_eq_true rfl) i5 tyX5_ok nmX5 (by decide +kernel) rfl (by decide +kernel) rfl rfl rfl (Nat.le_of_ble_eq_true rfl) rfl ?_
  refine v_aload_n 6 rfl dX5_choose_5 rfl rfl ?_
  refine v_iconst (v := nI 4) 7 rfl dX5_choose_6 (by decide) ?_
  refine v_callF (n := 1) (q0 := 0) (ci := 5) 10 rfl (m_begin6 (nI 4) ho) gX5_choose_X5_begin rfl (by decide +kernel) rfl ⟨(Nat.le_of_ble_eq_true rfl), (Nat.le_of_ble_eq_true rfl)⟩ rfl (Nat.le_of_ble_eq_true rfl) rfl rfl rfl dX5_choose_7 ⟨Nat.zero_le _, Nat.zero_le _⟩ rfl ?_
  refine v_st (st' := [.int (-1)]) rfl ?_
  exact v_iret dX5_choose_10 rfl rfl rfl

set_option maxRecDepth 100000 in
set_option maxHeartbeats 4000000 in
theorem m_chooseF {D : va_G} {cI cZ cJ : ClassId} {l : Launch} {ad : Nat → Nat} {le : Nat → Int32} {la : Nat → Int32} {kd : Nat → Int32} {fs : Nat → Int32} {sc : Nat → Int32} {mi : Nat → Int32} {bh : Nat → Int32} {mz : Nat} {oo : Nat → Int32} {ie : Nat → Int32} {mo : Nat} {mp : Int32} {mf : Int32} {mq : Int32} {ms : Nat} {mt : Int32} {mc : Int32} {no : Nat → Int32} {lf : Nat → Int32} {he : Nat → Int32} {pi : Nat → Int32} {ot : Nat → Int32} {bf : Nat → Int32} {ar : Nat → Int32} {md : Nat} (hs : mz = 40) (ho : mo < 6) : KM D (tyL cI cZ cJ) l yX5_choose wsX5_choose 2 45 [.ref (ad 0)] (wM ad cI cZ le la kd fs sc mi bh mz oo ie mo mp mf mq ms mt mc no lf he pi ot bf ar md) (some (.int (-1))) (wM ad cI cZ le la kd fs sc mi bh mz oo ie mo mp mf mq ms (nI 0) mc no lf he pi ot bf ar md) := by
  refine KM.of (cc := cX5_choose) (nL := 1) (ret := (some .int)) (by decide +kernel) rfl (Nat.le_of_ble_eq_true rfl) ?_
  have i5 : ∀ w ∈ u_ws RX5 TX5 25, w ∈ wsX5_choose := by decide +kernel
  refine v_aload_n 1 rfl dX5_choose_0 rfl rfl ?_
  refine v_iconst (v := nI 0) 2 rfl dX5_choose_1 (by decide) ?_
  refine v_put (ci := 5) (C := RX5) (T := TX5) (ty0 := tyX5) (N := 25) (ty := .int) (w' := wM ad cI cZ le la kd fs sc mi bh mz oo ie mo mp mf mq ms (nI 0) mc no lf he pi ot bf ar md) 5 rfl 0 15 dX5_choose_2 rfl (Nat.le_of_ble_eq_true rfl) i5 tyX5_ok nmX5 (by decide +kernel) rfl (by decide +kernel) rfl rfl rfl (Nat.le_of_ble_eq_true rfl) rfl ?_
  refine v_aload_n 6 rfl dX5_choose_5 rfl rfl ?_
  refine v_iconst (v := nI 4) 7 rfl dX5_choose_6 (by decide) ?_
  refine v_callF (n := 1) (q0 := 0) (ci := 5) 10 rfl (m_beginF (nI 4) hs ho) gX5_choose_X5_begin rfl (by decide +kernel) rfl ⟨(Nat.le_of_ble_eq_true rfl), (Nat.le_of_ble_eq_true rfl)⟩ rfl (Nat.le_of_ble_eq_true rfl) rfl rfl rfl dX5_choose_7 ⟨Nat.zero_le _, Nat.zero_le _⟩ rfl ?_
  refine v_st (st' := [.int (-1)]) rfl ?_
  exact v_iret dX5_choose_10 rfl rfl rfl

set_option maxRecDepth 100000 in
set_option maxHeartbeats 4000000 in
theorem m_repeat {D : va_G} {cI cZ cJ : ClassId} {l : Launch} {ad : Nat → Nat} {le : Nat → Int32} {la : Nat → Int32} {kd : Nat → Int32} {fs : Nat → Int32} {sc : Nat → Int32} {mi : Nat → Int32} {bh : Nat → Int32} {mz : Nat} {oo : Nat → Int32} {ie : Nat → Int32} {mo : Nat} {mp : Int32} {mf : Int32} {mq : Int32} {ms : Nat} {mt : Int32} {mc : Int32} {no : Nat → Int32} {lf : Nat → Int32} {he : Nat → Int32} {pi : Nat → Int32} {ot : Nat → Int32} {bf : Nat → Int32} {ar : Nat → Int32} {md : Nat} (hs : mz < 40) (ho : mo < 6) : KM D (tyL cI cZ cJ) l yX5_repeat wsX5_repeat 2 45 [.ref (ad 0)] (wM ad cI cZ le la kd fs sc mi bh mz oo ie mo mp mf mq ms mt mc no lf he pi ot bf ar md) (some (.int (nI mz))) (wM ad cI cZ le la (upd kd mz (nI 5)) (upd fs mz (nI 0)) (upd sc mz (nI 0)) mi bh (mz + 1) (upd oo mo (nI mz)) (upd ie mo (bI false)) (mo + 1) mp mf mq ms (nI 0) mc no lf he pi ot bf ar md) := by
  refine KM.of (cc := cX5_repeat) (nL := 1) (ret := (some .int)) (by decide +kernel) rfl (Nat.le_of_ble_eq_true rfl) ?_
  have i5 : ∀ w ∈ u_ws RX5 TX5 25, w ∈ wsX5_repeat := by decide +kernel
  refine v_aload_n 1 rfl dX5_repeat_0 rfl rfl ?_
  refine v_iconst (v := nI 0) 2 rfl dX5_repeat_1 (by decide) ?_
  refine v_put (ci := 5) (C := RX5) (T := TX5) (ty0 := tyX5) (N := 25) (ty := .int) (w' := wM ad cI cZ le la kd fs sc mi bh mz oo ie mo mp mf mq ms (nI 0) mc no lf he pi ot bf ar md) 5 rfl 0 15 dX5_repeat_2 rfl (Nat.le_of_ble_eq_true rfl) i5 tyX5_ok nmX5 (by decide +kernel) rfl (by decide +kernel) rfl rfl rfl (Nat.le_of_ble_eq_true rfl) rfl ?_
  refine v_aload_n 6 rfl dX5_repeat_5 rfl rfl ?_
  refine v_iconst (v := nI 5) 7 rfl dX5_repeat_6 (by decide) ?_
  refine v_callF (n := 1) (q0 := 0) (ci := 5) 10 rfl (m_begin (nI 5) hs ho) gX5_repeat_X5_begin rfl (by decide +kernel) rfl ⟨(Nat.le_of_ble_eq_true rfl), (Nat.le_of_ble_eq_true rfl)⟩ rfl (Nat.le_of_ble_eq_true rfl) rfl rfl rfl dX5_repeat_7 ⟨Nat.zero_le _, Nat.zero_le _⟩ rfl ?_
  refine v_st (st' := [.int (nI mz)]) rfl ?_
  exact v_iret dX5_repeat_10 rfl rfl rfl

set_option maxRecDepth 100000 in
set_option maxHeartbeats 4000000 in
theorem m_repeat6 {D : va_G} {cI cZ cJ : ClassId} {l : Launch} {ad : Nat → Nat} {le : Nat → Int32} {la : Nat → Int32} {kd : Nat → Int32} {fs : Nat → Int32} {sc : Nat → Int32} {mi : Nat → Int32} {bh : Nat → Int32} {mz : Nat} {oo : Nat → Int32} {ie : Nat → Int32} {mo : Nat} {mp : Int32} {mf : Int32} {mq : Int32} {ms : Nat} {mt : Int32} {mc : Int32} {no : Nat → Int32} {lf : Nat → Int32} {he : Nat → Int32} {pi : Nat → Int32} {ot : Nat → Int32} {bf : Nat → Int32} {ar : Nat → Int32} {md : Nat} (ho : mo = 6) : KM D (tyL cI cZ cJ) l yX5_repeat wsX5_repeat 1 22 [.ref (ad 0)] (wM ad cI cZ le la kd fs sc mi bh mz oo ie mo mp mf mq ms mt mc no lf he pi ot bf ar md) (some (.int (-1))) (wM ad cI cZ le la kd fs sc mi bh mz oo ie mo mp mf mq ms (nI 0) mc no lf he pi ot bf ar md) := by
  refine KM.of (cc := cX5_repeat) (nL := 1) (ret := (some .int)) (by decide +kernel) rfl (Nat.le_of_ble_eq_true rfl) ?_
  have i5 : ∀ w ∈ u_ws RX5 TX5 25, w ∈ wsX5_repeat := by decide +kernel
  refine v_aload_n 1 rfl dX5_repeat_0 rfl rfl ?_
  refine v_iconst (v := nI 0) 2 rfl dX5_repeat_1 (by decide) ?_
  refine v_put (ci := 5) (C := RX5) (T := TX5) (ty0 := tyX5) (N := 25) (ty := .int) (w' := wM ad cI cZ le la kd fs sc mi bh mz oo ie mo mp mf mq ms (nI 0) mc no lf he pi ot bf ar md) 5 rfl 0 15 dX5_repeat_2 rfl (Nat.le_of_ble_eq_true rfl) i5 tyX5_ok nmX5 (by decide +kernel) rfl (by decide +kernel) rfl rfl rfl (Nat.le_of_ble_eq_true rfl) rfl ?_
  refine v_aload_n 6 rfl dX5_repeat_5 rfl rfl ?_
  refine v_iconst (v := nI 5) 7 rfl dX5_repeat_6 (by decide) ?_
  refine v_callF (n := 1) (q0 := 0) (ci := 5) 10 rfl (m_begin6 (nI 5) ho) gX5_repeat_X5_begin rfl (by decide +kernel) rfl ⟨(Nat.le_of_ble_eq_true rfl), (Nat.le_of_ble_eq_true rfl)⟩ rfl (Nat.le_of_ble_eq_true rfl) rfl rfl rfl dX5_repeat_7 ⟨Nat.zero_le _, Nat.zero_le _⟩ rfl ?_
  refine v_st (st' := [.int (-1)]) rfl ?_
  exact v_iret dX5_repeat_10 rfl rfl rfl

set_option maxRecDepth 100000 in
set_option maxHeartbeats 4000000 in
theorem m_repeatF {D : va_G} {cI cZ cJ : ClassId} {l : Launch} {ad : Nat → Nat} {le : Nat → Int32} {la : Nat → Int32} {kd : Nat → Int32} {fs : Nat → Int32} {sc : Nat → Int32} {mi : Nat → Int32} {bh : Nat → Int32} {mz : Nat} {oo : Nat → Int32} {ie : Nat → Int32} {mo : Nat} {mp : Int32} {mf : Int32} {mq : Int32} {ms : Nat} {mt : Int32} {mc : Int32} {no : Nat → Int32} {lf : Nat → Int32} {he : Nat → Int32} {pi : Nat → Int32} {ot : Nat → Int32} {bf : Nat → Int32} {ar : Nat → Int32} {md : Nat} (hs : mz = 40) (ho : mo < 6) : KM D (tyL cI cZ cJ) l yX5_repeat wsX5_repeat 2 45 [.ref (ad 0)] (wM ad cI cZ le la kd fs sc mi bh mz oo ie mo mp mf mq ms mt mc no lf he pi ot bf ar md) (some (.int (-1))) (wM ad cI cZ le la kd fs sc mi bh mz oo ie mo mp mf mq ms (nI 0) mc no lf he pi ot bf ar md) := by
  refine KM.of (cc := cX5_repeat) (nL := 1) (ret := (some .int)) (by decide +kernel) rfl (Nat.le_of_ble_eq_true rfl) ?_
  have i5 : ∀ w ∈ u_ws RX5 TX5 25, w ∈ wsX5_repeat := by decide +kernel
  refine v_aload_n 1 rfl dX5_repeat_0 rfl rfl ?_
  refine v_iconst (v := nI 0) 2 rfl dX5_repeat_1 (by decide) ?_
  refine v_put (ci := 5) (C := RX5) (T := TX5) (ty0 := tyX5) (N := 25) (ty := .int) (w' := wM ad cI cZ le la kd fs sc mi bh mz oo ie mo mp mf mq ms (nI 0) mc no lf he pi ot bf ar md) 5 rfl 0 15 dX5_repeat_2 rfl (Nat.le_of_ble_eq_true rfl) i5 tyX5_ok nmX5 (by decide +kernel) rfl (by decide +kernel) rfl rfl rfl (Nat.le_of_ble_eq_true rfl) rfl ?_
  refine v_aload_n 6 rfl dX5_repeat_5 rfl rfl ?_
  refine v_iconst (v := nI 5) 7 rfl dX5_repeat_6 (by decide) ?_
  refine v_callF (n := 1) (q0 := 0) (ci := 5) 10 rfl (m_beginF (nI 5) hs ho) gX5_repeat_X5_begin rfl (by decide +kernel) rfl ⟨(Nat.le_of_ble_eq_true rfl), (Nat.le_of_ble_eq_true rfl)⟩ rfl (Nat.le_of_ble_eq_true rfl) rfl rfl rfl dX5_repeat_7 ⟨Nat.zero_le _, Nat.zero_le _⟩ rfl ?_
  refine v_st (st' := [.int (-1)]) rfl ?_
  exact v_iret dX5_repeat_10 rfl rfl rfl

set_option maxRecDepth 100000 in
set_option maxHeartbeats 4000000 in
theorem m_otherwise0 {D : va_G} {cI cZ cJ : ClassId} {l : Launch} {ad : Nat → Nat} {le : Nat → Int32} {la : Nat → Int32} {kd : Nat → Int32} {fs : Nat → Int32} {sc : Nat → Int32} {mi : Nat → Int32} {bh : Nat → Int32} {mz : Nat} {oo : Nat → Int32} {ie : Nat → Int32} {mo : Nat} {mp : Int32} {mf : Int32} {mq : Int32} {ms : Nat} {mt : Int32} {mc : Int32} {no : Nat → Int32} {lf : Nat → Int32} {he : Nat → Int32} {pi : Nat → Int32} {ot : Nat → Int32} {bf : Nat → Int32} {ar : Nat → Int32} {md : Nat} (h0 : mo = 0) : KM D (tyL cI cZ cJ) l yX5_otherwise wsX5_otherwise 0 0 [.ref (ad 0)] (wM ad cI cZ le la kd fs sc mi bh mz oo ie mo mp mf mq ms mt mc no lf he pi ot bf ar md) (some (.int (bI false))) (wM ad cI cZ le la kd fs sc mi bh mz oo ie mo mp mf mq ms (nI 0) mc no lf he pi ot bf ar md) := by
  refine KM.of (cc := cX5_otherwise) (nL := 1) (ret := (some .boolean)) (by decide +kernel) rfl (Nat.le_of_ble_eq_true rfl) ?_
  have i5 : ∀ w ∈ u_ws RX5 TX5 25, w ∈ wsX5_otherwise := by decide +kernel
  refine v_aload_n 1 rfl dX5_otherwise_0 rfl rfl ?_
  refine v_iconst (v := nI 0) 2 rfl dX5_otherwise_1 (by decide) ?_
  refine v_put (ci := 5) (C := RX5) (T := TX5) (ty0 := tyX5) (N := 25) (ty := .int) (w' := wM ad cI cZ le la kd fs sc mi bh mz oo ie mo mp mf mq ms (nI 0) mc no lf he pi ot bf ar md) 5 rfl 0 15 dX5_otherwise_2 rfl (Nat.le_of_ble_eq_true rfl) i5 tyX5_ok nmX5 (by decide +kernel) rfl (by decide +kernel) rfl rfl rfl (Nat.le_of_ble_eq_true rfl) rfl ?_
  refine v_aload_n 6 rfl dX5_otherwise_5 rfl rfl ?_
  refine v_get (ci := 5) (C := RX5) (T := TX5) (N := 25) (v := .int (nI mo)) 9 rfl 0 10 dX5_otherwise_6 rfl (Nat.le_of_ble_eq_true rfl) i5 (by decide +kernel) rfl rfl ?_
  refine v_if_eqN (a := mo) 46 12 rfl dX5_otherwise_9 (by decide) (by omega) (fun c9 => ?_) (fun q => False.elim (by omega))
  refine v_iconst (v := nI 0) 47 rfl dX5_otherwise_46 (by decide) ?_
  refine v_top (v' := bI false) (by decide) ?_
  exact v_zret dX5_otherwise_47 rfl rfl rfl

set_option maxRecDepth 100000 in
set_option maxHeartbeats 4000000 in
theorem m_otherwiseW {D : va_G} {cI cZ cJ : ClassId} {l : Launch} {ad : Nat → Nat} {le : Nat → Int32} {la : Nat → Int32} {kd : Nat → Int32} {fs : Nat → Int32} {sc : Nat → Int32} {mi : Nat → Int32} {bh : Nat → Int32} {mz : Nat} {oo : Nat → Int32} {ie : Nat → Int32} {mo : Nat} {mp : Int32} {mf : Int32} {mq : Int32} {ms : Nat} {mt : Int32} {mc : Int32} {no : Nat → Int32} {lf : Nat → Int32} {he : Nat → Int32} {pi : Nat → Int32} {ot : Nat → Int32} {bf : Nat → Int32} {ar : Nat → Int32} {md : Nat} (i : Nat) (h0 : 0 < mo) (ho : mo ≤ 6) (hi : oo (mo - 1) = nI i) (hi2 : i < 40) (hk : kd i = nI 5) : KM D (tyL cI cZ cJ) l yX5_otherwise wsX5_otherwise 0 0 [.ref (ad 0)] (wM ad cI cZ le la kd fs sc mi bh mz oo ie mo mp mf mq ms mt mc no lf he pi ot bf ar md) (some (.int (bI false))) (wM ad cI cZ le la kd fs sc mi bh mz oo ie mo mp mf mq ms (nI 0) mc no lf he pi ot bf ar md) := by
  refine KM.of (cc := cX5_otherwise) (nL := 1) (ret := (some .boolean)) (by decide +kernel) rfl (Nat.le_of_ble_eq_true rfl) ?_
  have i5 : ∀ w ∈ u_ws RX5 TX5 25, w ∈ wsX5_otherwise := by decide +kernel
  refine v_aload_n 1 rfl dX5_otherwise_0 rfl rfl ?_
  refine v_iconst (v := nI 0) 2 rfl dX5_otherwise_1 (by decide) ?_
  refine v_put (ci := 5) (C := RX5) (T := TX5) (ty0 := tyX5) (N := 25) (ty := .int) (w' := wM ad cI cZ le la kd fs sc mi bh mz oo ie mo mp mf mq ms (nI 0) mc no lf he pi ot bf ar md) 5 rfl 0 15 dX5_otherwise_2 rfl (Nat.le_of_ble_eq_true rfl) i5 tyX5_ok nmX5 (by decide +kernel) rfl (by decide +kernel) rfl rfl rfl (Nat.le_of_ble_eq_true rfl) rfl ?_
  refine v_aload_n 6 rfl dX5_otherwise_5 rfl rfl ?_
  refine v_get (ci := 5) (C := RX5) (T := TX5) (N := 25) (v := .int (nI mo)) 9 rfl 0 10 dX5_otherwise_6 rfl (Nat.le_of_ble_eq_true rfl) i5 (by decide +kernel) rfl rfl ?_
  refine v_if_eqN (a := mo) 46 12 rfl dX5_otherwise_9 (by decide) (by omega) (fun q => False.elim (by omega)) (fun c9 => ?_)
  refine v_aload_n 13 rfl dX5_otherwise_12 rfl rfl ?_
  refine v_get (ci := 5) (C := RX5) (T := TX5) (N := 25) (v := .ref (ad 3)) 16 rfl 0 2 dX5_otherwise_13 rfl (Nat.le_of_ble_eq_true rfl) i5 (by decide +kernel) rfl rfl ?_
  refine v_aload_n 17 rfl dX5_otherwise_16 rfl rfl ?_
  refine v_get (ci := 5) (C := RX5) (T := TX5) (N := 25) (v := .ref (ad 8)) 20 rfl 0 8 dX5_otherwise_17 rfl (Nat.le_of_ble_eq_true rfl) i5 (by decide +kernel) rfl rfl ?_
  refine v_aload_n 21 rfl dX5_otherwise_20 rfl rfl ?_
  refine v_get (ci := 5) (C := RX5) (T := TX5) (N := 25) (v := .int (nI mo)) 24 rfl 0 10 dX5_otherwise_21 rfl (Nat.le_of_ble_eq_true rfl) i5 (by decide +kernel) rfl rfl ?_
  refine v_iconst (v := nI 1) 25 rfl dX5_otherwise_24 (by decide) ?_
  refine v_isubN (a := mo) (b := 1) 26 rfl dX5_otherwise_25 (by omega) ?_
  refine v_iald (j := mo - 1) (v := nI i) 27 rfl 8 0 dX5_otherwise_26 rfl rfl (by omega) (by decide) hi ?_
  refine v_iald (j := i) (v := nI 5) 28 rfl 3 0 dX5_otherwise_27 rfl rfl (by omega) (by decide) hk ?_
  refine v_iconst (v := nI 4) 29 rfl dX5_otherwise_28 (by decide) ?_
  refine v_icmp_neN (a := 5) (b := 4) 46 32 rfl dX5_otherwise_29 (by decide) (by omega) (by omega) (fun c29 => ?_) (fun q => False.elim (by omega))
  refine v_iconst (v := nI 0) 47 rfl dX5_otherwise_46 (by decide) ?_
  refine v_top (v' := bI false) (by decide) ?_
  exact v_zret dX5_otherwise_47 rfl rfl rfl

set_option maxRecDepth 100000 in
set_option maxHeartbeats 4000000 in
theorem m_otherwiseE {D : va_G} {cI cZ cJ : ClassId} {l : Launch} {ad : Nat → Nat} {le : Nat → Int32} {la : Nat → Int32} {kd : Nat → Int32} {fs : Nat → Int32} {sc : Nat → Int32} {mi : Nat → Int32} {bh : Nat → Int32} {mz : Nat} {oo : Nat → Int32} {ie : Nat → Int32} {mo : Nat} {mp : Int32} {mf : Int32} {mq : Int32} {ms : Nat} {mt : Int32} {mc : Int32} {no : Nat → Int32} {lf : Nat → Int32} {he : Nat → Int32} {pi : Nat → Int32} {ot : Nat → Int32} {bf : Nat → Int32} {ar : Nat → Int32} {md : Nat} (i : Nat) (h0 : 0 < mo) (ho : mo ≤ 6) (hi : oo (mo - 1) = nI i) (hi2 : i < 40) (hk : kd i = nI 4) (hie : ie (mo - 1) = bI true) : KM D (tyL cI cZ cJ) l yX5_otherwise wsX5_otherwise 0 0 [.ref (ad 0)] (wM ad cI cZ le la kd fs sc mi bh mz oo ie mo mp mf mq ms mt mc no lf he pi ot bf ar md) (some (.int (bI false))) (wM ad cI cZ le la kd fs sc mi bh mz oo ie mo mp mf mq ms (nI 0) mc no lf he pi ot bf ar md) := by
  refine KM.of (cc := cX5_otherwise) (nL := 1) (ret := (some .boolean)) (by decide +kernel) rfl (Nat.le_of_ble_eq_true rfl) ?_
  have i5 : ∀ w ∈ u_ws RX5 TX5 25, w ∈ wsX5_otherwise := by decide +kernel
  refine v_aload_n 1 rfl dX5_otherwise_0 rfl rfl ?_
  refine v_iconst (v := nI 0) 2 rfl dX5_otherwise_1 (by decide) ?_
  refine v_put (ci := 5) (C := RX5) (T := TX5) (ty0 := tyX5) (N := 25) (ty := .int) (w' := wM ad cI cZ le la kd fs sc mi bh mz oo ie mo mp mf mq ms (nI 0) mc no lf he pi ot bf ar md) 5 rfl 0 15 dX5_otherwise_2 rfl (Nat.le_of_ble_eq_true rfl) i5 tyX5_ok nmX5 (by decide +kernel) rfl (by decide +kernel) rfl rfl rfl (Nat.le_of_ble_eq_true rfl) rfl ?_
  refine v_aload_n 6 rfl dX5_otherwise_5 rfl rfl ?_
  refine v_get (ci := 5) (C := RX5) (T := TX5) (N := 25) (v := .int (nI mo)) 9 rfl 0 10 dX5_otherwise_6 rfl (Nat.le_of_ble_eq_true rfl) i5 (by decide +kernel) rfl rfl ?_
  refine v_if_eqN (a := mo) 46 12 rfl dX5_otherwise_9 (by decide) (by omega) (fun q => False.elim (by omega)) (fun c9 => ?_)
  refine v_aload_n 13 rfl dX5_otherwise_12 rfl rfl ?_
  refine v_get (ci := 5) (C := RX5) (T := TX5) (N := 25) (v := .ref (ad 3)) 16 rfl 0 2 dX5_otherwise_13 rfl (Nat.le_of_ble_eq_true rfl) i5 (by decide +kernel) rfl rfl ?_
  refine v_aload_n 17 rfl dX5_otherwise_16 rfl rfl ?_
  refine v_get (ci := 5) (C := RX5) (T := TX5) (N := 25) (v := .ref (ad 8)) 20 rfl 0 8 dX5_otherwise_17 rfl (Nat.le_of_ble_eq_true rfl) i5 (by decide +kernel) rfl rfl ?_
  refine v_aload_n 21 rfl dX5_otherwise_20 rfl rfl ?_
  refine v_get (ci := 5) (C := RX5) (T := TX5) (N := 25) (v := .int (nI mo)) 24 rfl 0 10 dX5_otherwise_21 rfl (Nat.le_of_ble_eq_true rfl) i5 (by decide +kernel) rfl rfl ?_
  refine v_iconst (v := nI 1) 25 rfl dX5_otherwise_24 (by decide) ?_
  refine v_isubN (a := mo) (b := 1) 26 rfl dX5_otherwise_25 (by omega) ?_
  refine v_iald (j := mo - 1) (v := nI i) 27 rfl 8 0 dX5_otherwise_26 rfl rfl (by omega) (by decide) hi ?_
  refine v_iald (j := i) (v := nI 4) 28 rfl 3 0 dX5_otherwise_27 rfl rfl (by omega) (by decide) hk ?_
  refine v_iconst (v := nI 4) 29 rfl dX5_otherwise_28 (by decide) ?_
  refine v_icmp_neN (a := 4) (b := 4) 46 32 rfl dX5_otherwise_29 (by decide) (by omega) (by omega) (fun q => False.elim (by omega)) (fun c29 => ?_)
  refine v_aload_n 33 rfl dX5_otherwise_32 rfl rfl ?_
  refine v_get (ci := 5) (C := RX5) (T := TX5) (N := 25) (v := .ref (ad 9)) 36 rfl 0 9 dX5_otherwise_33 rfl (Nat.le_of_ble_eq_true rfl) i5 (by decide +kernel) rfl rfl ?_
  refine v_aload_n 37 rfl dX5_otherwise_36 rfl rfl ?_
  refine v_get (ci := 5) (C := RX5) (T := TX5) (N := 25) (v := .int (nI mo)) 40 rfl 0 10 dX5_otherwise_37 rfl (Nat.le_of_ble_eq_true rfl) i5 (by decide +kernel) rfl rfl ?_
  refine v_iconst (v := nI 1) 41 rfl dX5_otherwise_40 (by decide) ?_
  refine v_isubN (a := mo) (b := 1) 42 rfl dX5_otherwise_41 (by omega) ?_
  refine v_zald (j := mo - 1) (v := bI true) 43 rfl 9 1 dX5_otherwise_42 rfl rfl (by omega) (by decide) hie ?_
  refine v_if_eqB (b := true) 48 46 rfl dX5_otherwise_43 (by decide) (fun q => False.elim (by cases q)) (fun c43 => ?_)
  refine v_iconst (v := nI 0) 47 rfl dX5_otherwise_46 (by decide) ?_
  refine v_top (v' := bI false) (by decide) ?_
  exact v_zret dX5_otherwise_47 rfl rfl rfl

set_option maxRecDepth 100000 in
set_option maxHeartbeats 4000000 in
theorem m_otherwise {D : va_G} {cI cZ cJ : ClassId} {l : Launch} {ad : Nat → Nat} {le : Nat → Int32} {la : Nat → Int32} {kd : Nat → Int32} {fs : Nat → Int32} {sc : Nat → Int32} {mi : Nat → Int32} {bh : Nat → Int32} {mz : Nat} {oo : Nat → Int32} {ie : Nat → Int32} {mo : Nat} {mp : Int32} {mf : Int32} {mq : Int32} {ms : Nat} {mt : Int32} {mc : Int32} {no : Nat → Int32} {lf : Nat → Int32} {he : Nat → Int32} {pi : Nat → Int32} {ot : Nat → Int32} {bf : Nat → Int32} {ar : Nat → Int32} {md : Nat} (i : Nat) (h0 : 0 < mo) (ho : mo ≤ 6) (hi : oo (mo - 1) = nI i) (hi2 : i < 40) (hk : kd i = nI 4) (hie : ie (mo - 1) = bI false) : KM D (tyL cI cZ cJ) l yX5_otherwise wsX5_otherwise 0 0 [.ref (ad 0)] (wM ad cI cZ le la kd fs sc mi bh mz oo ie mo mp mf mq ms mt mc no lf he pi ot bf ar md) (some (.int (bI true))) (wM ad cI cZ le la kd fs sc (upd mi i (nI mz)) bh mz oo (upd ie (mo - 1) (bI true)) mo mp mf mq ms (nI 0) mc no lf he pi ot bf ar md) := by
  refine KM.of (cc := cX5_otherwise) (nL := 1) (ret := (some .boolean)) (by decide +kernel) rfl (Nat.le_of_ble_eq_true rfl) ?_
  have i5 : ∀ w ∈ u_ws RX5 TX5 25, w ∈ wsX5_otherwise := by decide +kernel
  refine v_aload_n 1 rfl dX5_otherwise_0 rfl rfl ?_
  refine v_iconst (v := nI 0) 2 rfl dX5_otherwise_1 (by decide) ?_
  refine v_put (ci := 5) (C := RX5) (T := TX5) (ty0 := tyX5) (N := 25) (ty := .int) (w' := wM ad cI cZ le la kd fs sc mi bh mz oo ie mo mp mf mq ms (nI 0) mc no lf he pi ot bf ar md) 5 rfl 0 15 dX5_otherwise_2 rfl (Nat.le_of_ble_eq_true rfl) i5 tyX5_ok nmX5 (by decide +kernel) rfl (by decide +kernel) rfl rfl rfl (Nat.le_of_ble_eq_true rfl) rfl ?_
  refine v_aload_n 6 rfl dX5_otherwise_5 rfl rfl ?_
  refine v_get (ci := 5) (C := RX5) (T := TX5) (N := 25) (v := .int (nI mo)) 9 rfl 0 10 dX5_otherwise_6 rfl (Nat.le_of_ble_eq_true rfl) i5 (by decide +kernel) rfl rfl ?_
  refine v_if_eqN (a := mo) 46 12 rfl dX5_otherwise_9 (by decide) (by omega) (fun q => False.elim (by omega)) (fun c9 => ?_)
  refine v_aload_n 13 rfl dX5_otherwise_12 rfl rfl ?_
  refine v_get (ci := 5) (C := RX5) (T := TX5) (N := 25) (v := .ref (ad 3)) 16 rfl 0 2 dX5_otherwise_13 rfl (Nat.le_of_ble_eq_true rfl) i5 (by decide +kernel) rfl rfl ?_
  refine v_aload_n 17 rfl dX5_otherwise_16 rfl rfl ?_
  refine v_get (ci := 5) (C := RX5) (T := TX5) (N := 25) (v := .ref (ad 8)) 20 rfl 0 8 dX5_otherwise_17 rfl (Nat.le_of_ble_eq_true rfl) i5 (by decide +kernel) rfl rfl ?_
  refine v_aload_n 21 rfl dX5_otherwise_20 rfl rfl ?_
  refine v_get (ci := 5) (C := RX5) (T := TX5) (N := 25) (v := .int (nI mo)) 24 rfl 0 10 dX5_otherwise_21 rfl (Nat.le_of_ble_eq_true rfl) i5 (by decide +kernel) rfl rfl ?_
  refine v_iconst (v := nI 1) 25 rfl dX5_otherwise_24 (by decide) ?_
  refine v_isubN (a := mo) (b := 1) 26 rfl dX5_otherwise_25 (by omega) ?_
  refine v_iald (j := mo - 1) (v := nI i) 27 rfl 8 0 dX5_otherwise_26 rfl rfl (by omega) (by decide) hi ?_
  refine v_iald (j := i) (v := nI 4) 28 rfl 3 0 dX5_otherwise_27 rfl rfl (by omega) (by decide) hk ?_
  refine v_iconst (v := nI 4) 29 rfl dX5_otherwise_28 (by decide) ?_
  refine v_icmp_neN (a := 4) (b := 4) 46 32 rfl dX5_otherwise_29 (by decide) (by omega) (by omega) (fun q => False.elim (by omega)) (fun c29 => ?_)
  refine v_aload_n 33 rfl dX5_otherwise_32 rfl rfl ?_
  refine v_get (ci := 5) (C := RX5) (T := TX5) (N := 25) (v := .ref (ad 9)) 36 rfl 0 9 dX5_otherwise_33 rfl (Nat.le_of_ble_eq_true rfl) i5 (by decide +kernel) rfl rfl ?_
  refine v_aload_n 37 rfl dX5_otherwise_36 rfl rfl ?_
  refine v_get (ci := 5) (C := RX5) (T := TX5) (N := 25) (v := .int (nI mo)) 40 rfl 0 10 dX5_otherwise_37 rfl (Nat.le_of_ble_eq_true rfl) i5 (by decide +kernel) rfl rfl ?_
  refine v_iconst (v := nI 1) 41 rfl dX5_otherwise_40 (by decide) ?_
  refine v_isubN (a := mo) (b := 1) 42 rfl dX5_otherwise_41 (by omega) ?_
  refine v_zald (j := mo - 1) (v := bI false) 43 rfl 9 1 dX5_otherwise_42 rfl rfl (by omega) (by decide) hie ?_
  refine v_if_eqB (b := false) 48 46 rfl dX5_otherwise_43 (by decide) (fun c43 => ?_) (fun q => False.elim (by cases q))
  refine v_aload_n 49 rfl dX5_otherwise_48 rfl rfl ?_
  refine v_get (ci := 5) (C := RX5) (T := TX5) (N := 25) (v := .ref (ad 9)) 52 rfl 0 9 dX5_otherwise_49 rfl (Nat.le_of_ble_eq_true rfl) i5 (by decide +kernel) rfl rfl ?_
  refine v_aload_n 53 rfl dX5_otherwise_52 rfl rfl ?_
  refine v_get (ci := 5) (C := RX5) (T := TX5) (N := 25) (v := .int (nI mo)) 56 rfl 0 10 dX5_otherwise_53 rfl (Nat.le_of_ble_eq_true rfl) i5 (by decide +kernel) rfl rfl ?_
  refine v_iconst (v := nI 1) 57 rfl dX5_otherwise_56 (by decide) ?_
  refine v_isubN (a := mo) (b := 1) 58 rfl dX5_otherwise_57 (by omega) ?_
  refine v_iconst (v := bI true) 59 rfl dX5_otherwise_58 (by decide) ?_
  refine v_zast (j := mo - 1) (b := true) (w' := wM ad cI cZ le la kd fs sc mi bh mz oo (upd ie (mo - 1) (bI true)) mo mp mf mq ms (nI 0) mc no lf he pi ot bf ar md) 60 rfl 9 1 dX5_otherwise_59 rfl rfl (by omega) (by decide) rfl ?_
  refine v_aload_n 61 rfl dX5_otherwise_60 rfl rfl ?_
  refine v_get (ci := 5) (C := RX5) (T := TX5) (N := 25) (v := .ref (ad 6)) 64 rfl 0 5 dX5_otherwise_61 rfl (Nat.le_of_ble_eq_true rfl) i5 (by decide +kernel) rfl rfl ?_
  refine v_aload_n 65 rfl dX5_otherwise_64 rfl rfl ?_
  refine v_get (ci := 5) (C := RX5) (T := TX5) (N := 25) (v := .ref (ad 8)) 68 rfl 0 8 dX5_otherwise_65 rfl (Nat.le_of_ble_eq_true rfl) i5 (by decide +kernel) rfl rfl ?_
  refine v_aload_n 69 rfl dX5_otherwise_68 rfl rfl ?_
  refine v_get (ci := 5) (C := RX5) (T := TX5) (N := 25) (v := .int (nI mo)) 72 rfl 0 10 dX5_otherwise_69 rfl (Nat.le_of_ble_eq_true rfl) i5 (by decide +kernel) rfl rfl ?_
  refine v_iconst (v := nI 1) 73 rfl dX5_otherwise_72 (by decide) ?_
  refine v_isubN (a := mo) (b := 1) 74 rfl dX5_otherwise_73 (by omega) ?_
  refine v_iald (j := mo - 1) (v := nI i) 75 rfl 8 0 dX5_otherwise_74 rfl rfl (by omega) (by decide) hi ?_
  refine v_aload_n 76 rfl dX5_otherwise_75 rfl rfl ?_
  refine v_get (ci := 5) (C := RX5) (T := TX5) (N := 25) (v := .int (nI mz)) 79 rfl 0 7 dX5_otherwise_76 rfl (Nat.le_of_ble_eq_true rfl) i5 (by decide +kernel) rfl rfl ?_
  refine v_iast (j := i) (w' := wM ad cI cZ le la kd fs sc (upd mi i (nI mz)) bh mz oo (upd ie (mo - 1) (bI true)) mo mp mf mq ms (nI 0) mc no lf he pi ot bf ar md) 80 rfl 6 0 dX5_otherwise_79 rfl rfl (by omega) (by decide) rfl ?_
  refine v_iconst (v := nI 1) 81 rfl dX5_otherwise_80 (by decide) ?_
  refine v_top (v' := bI true) (by decide) ?_
  exact v_zret dX5_otherwise_81 rfl rfl rfl

set_option maxRecDepth 100000 in
set_option maxHeartbeats 4000000 in
theorem m_end0 {D : va_G} {cI cZ cJ : ClassId} {l : Launch} {ad : Nat → Nat} {le : Nat → Int32} {la : Nat → Int32} {kd : Nat → Int32} {fs : Nat → Int32} {sc : Nat → Int32} {mi : Nat → Int32} {bh : Nat → Int32} {mz : Nat} {oo : Nat → Int32} {ie : Nat → Int32} {mo : Nat} {mp : Int32} {mf : Int32} {mq : Int32} {ms : Nat} {mt : Int32} {mc : Int32} {no : Nat → Int32} {lf : Nat → Int32} {he : Nat → Int32} {pi : Nat → Int32} {ot : Nat → Int32} {bf : Nat → Int32} {ar : Nat → Int32} {md : Nat} (h0 : mo = 0) : KM D (tyL cI cZ cJ) l yX5_end wsX5_end 0 0 [.ref (ad 0)] (wM ad cI cZ le la kd fs sc mi bh mz oo ie mo mp mf mq ms mt mc no lf he pi ot bf ar md) (some (.int (bI false))) (wM ad cI cZ le la kd fs sc mi bh mz oo ie mo mp mf mq ms (nI 0) mc no lf he pi ot bf ar md) := by
  refine KM.of (cc := cX5_end) (nL := 2) (ret := (some .boolean)) (by decide +kernel) rfl (Nat.le_of_ble_eq_true rfl) ?_
  have i5 : ∀ w ∈ u_ws RX5 TX5 25, w ∈ wsX5_end := by decide +kernel
  refine v_aload_n 1 rfl dX5_end_0 rfl rfl ?_
  refine v_iconst (v := nI 0) 2 rfl dX5_end_1 (by decide) ?_
  refine v_put (ci := 5) (C := RX5) (T := TX5) (ty0 := tyX5) (N := 25) (ty := .int) (w' := wM ad cI cZ le la kd fs sc mi bh mz oo ie mo mp mf mq ms (nI 0) mc no lf he pi ot bf ar md) 5 rfl 0 15 dX5_end_2 rfl (Nat.le_of_ble_eq_true rfl) i5 tyX5_ok nmX5 (by decide +kernel) rfl (by decide +kernel) rfl rfl rfl (Nat.le_of_ble_eq_true rfl) rfl ?_
  refine v_aload_n 6 rfl dX5_end_5 rfl rfl ?_
  refine v_get (ci := 5) (C := RX5) (T := TX5) (N := 25) (v := .int (nI mo)) 9 rfl 0 10 dX5_end_6 rfl (Nat.le_of_ble_eq_true rfl) i5 (by decide +kernel) rfl rfl ?_
  refine v_if_neN (a := mo) 14 12 rfl dX5_end_9 (by decide) (by omega) (fun q => False.elim (by omega)) (fun c9 => ?_)
  refine v_iconst (v := nI 0) 13 rfl dX5_end_12 (by decide) ?_
  refine v_top (v' := bI false) (by decide) ?_
  exact v_zret dX5_end_13 rfl rfl rfl

set_option maxRecDepth 100000 in
set_option maxHeartbeats 4000000 in
theorem m_endT {D : va_G} {cI cZ cJ : ClassId} {l : Launch} {ad : Nat → Nat} {le : Nat → Int32} {la : Nat → Int32} {kd : Nat → Int32} {fs : Nat → Int32} {sc : Nat → Int32} {mi : Nat → Int32} {bh : Nat → Int32} {mz : Nat} {oo : Nat → Int32} {ie : Nat → Int32} {mo : Nat} {mp : Int32} {mf : Int32} {mq : Int32} {ms : Nat} {mt : Int32} {mc : Int32} {no : Nat → Int32} {lf : Nat → Int32} {he : Nat → Int32} {pi : Nat → Int32} {ot : Nat → Int32} {bf : Nat → Int32} {ar : Nat → Int32} {md : Nat} (i : Nat) (h0 : 0 < mo) (ho : mo ≤ 6) (hi : oo (mo - 1) = nI i) (hi2 : i < 40) (hie : ie (mo - 1) = bI false) : KM D (tyL cI cZ cJ) l yX5_end wsX5_end 0 0 [.ref (ad 0)] (wM ad cI cZ le la kd fs sc mi bh mz oo ie mo mp mf mq ms mt mc no lf he pi ot bf ar md) (some (.int (bI true))) (wM ad cI cZ le la kd fs sc (upd mi i (nI mz)) (upd bh i (nI mz)) mz oo ie (mo - 1) mp mf mq ms (nI 0) mc no lf he pi ot bf ar md) := by
  refine KM.of (cc := cX5_end) (nL := 2) (ret := (some .boolean)) (by decide +kernel) rfl (Nat.le_of_ble_eq_true rfl) ?_
  have i5 : ∀ w ∈ u_ws RX5 TX5 25, w ∈ wsX5_end := by decide +kernel
  refine v_aload_n 1 rfl dX5_end_0 rfl rfl ?_
  refine v_iconst (v := nI 0) 2 rfl dX5_end_1 (by decide) ?_
  refine v_put (ci := 5) (C := RX5) (T := TX5) (ty0 := tyX5) (N := 25) (ty := .int) (w' := wM ad cI cZ le la kd fs sc mi bh mz oo ie mo mp mf mq ms (nI 0) mc no lf he pi ot bf ar md) 5 rfl 0 15 dX5_end_2 rfl (Nat.le_of_ble_eq_true rfl) i5 tyX5_ok nmX5 (by decide +kernel) rfl (by decide +kernel) rfl rfl rfl (Nat.le_of_ble_eq_true rfl) rfl ?_
  refine v_aload_n 6 rfl dX5_end_5 rfl rfl ?_
  refine v_get (ci := 5) (C := RX5) (T := TX5) (N := 25) (v := .int (nI mo)) 9 rfl 0 10 dX5_end_6 rfl (Nat.le_of_ble_eq_true rfl) i5 (by decide +kernel) rfl rfl ?_
  refine v_if_neN (a := mo) 14 12 rfl dX5_end_9 (by decide) (by omega) (fun c9 => ?_) (fun q => False.elim (by omega))
  refine v_aload_n 15 rfl dX5_end_14 rfl rfl ?_
  refine v_aload_n 16 rfl dX5_end_15 rfl rfl ?_
  refine v_get (ci := 5) (C := RX5) (T := TX5) (N := 25) (v := .int (nI mo)) 19 rfl 0 10 dX5_end_16 rfl (Nat.le_of_ble_eq_true rfl) i5 (by decide +kernel) rfl rfl ?_
  refine v_iconst (v := nI 1) 20 rfl dX5_end_19 (by decide) ?_
  refine v_isubN (a := mo) (b := 1) 21 rfl dX5_end_20 (by omega) ?_
  refine v_put (ci := 5) (C := RX5) (T := TX5) (ty0 := tyX5) (N := 25) (ty := .int) (w' := wM ad cI cZ le la kd fs sc mi bh mz oo ie (mo - 1) mp mf mq ms (nI 0) mc no lf he pi ot bf ar md) 24 rfl 0 10 dX5_end_21 rfl (Nat.le_of_ble_eq_true rfl) i5 tyX5_ok nmX5 (by decide +kernel) rfl (by decide +kernel) rfl rfl rfl (Nat.le_of_ble_eq_true rfl) rfl ?_
  refine v_aload_n 25 rfl dX5_end_24 rfl rfl ?_
  refine v_get (ci := 5) (C := RX5) (T := TX5) (N := 25) (v := .ref (ad 8)) 28 rfl 0 8 dX5_end_25 rfl (Nat.le_of_ble_eq_true rfl) i5 (by decide +kernel) rfl rfl ?_
  refine v_aload_n 29 rfl dX5_end_28 rfl rfl ?_
  refine v_get (ci := 5) (C := RX5) (T := TX5) (N := 25) (v := .int (nI (mo - 1))) 32 rfl 0 10 dX5_end_29 rfl (Nat.le_of_ble_eq_true rfl) i5 (by decide +kernel) rfl rfl ?_
  refine v_iald (j := mo - 1) (v := nI i) 33 rfl 8 0 dX5_end_32 rfl rfl (by omega) (by decide) hi ?_
  refine v_istore_n (lv' := [(1, .int (nI i)), (0, .ref (ad 0))]) 34 rfl dX5_end_33 rfl (Nat.le_of_ble_eq_true rfl) rfl ?_
  refine v_aload_n 35 rfl dX5_end_34 rfl rfl ?_
  refine v_get (ci := 5) (C := RX5) (T := TX5) (N := 25) (v := .ref (ad 9)) 38 rfl 0 9 dX5_end_35 rfl (Nat.le_of_ble_eq_true rfl) i5 (by decide +kernel) rfl rfl ?_
  refine v_aload_n 39 rfl dX5_end_38 rfl rfl ?_
  refine v_get (ci := 5) (C := RX5) (T := TX5) (N := 25) (v := .int (nI (mo - 1))) 42 rfl 0 10 dX5_end_39 rfl (Nat.le_of_ble_eq_true rfl) i5 (by decide +kernel) rfl rfl ?_
  refine v_zald (j := mo - 1) (v := bI false) 43 rfl 9 1 dX5_end_42 rfl rfl (by omega) (by decide) hie ?_
  refine v_if_neB (b := false) 56 46 rfl dX5_end_43 (by decide) (fun q => False.elim (by cases q)) (fun c43 => ?_)
  refine v_aload_n 47 rfl dX5_end_46 rfl rfl ?_
  refine v_get (ci := 5) (C := RX5) (T := TX5) (N := 25) (v := .ref (ad 6)) 50 rfl 0 5 dX5_end_47 rfl (Nat.le_of_ble_eq_true rfl) i5 (by decide +kernel) rfl rfl ?_
  refine v_iload_n 51 rfl dX5_end_50 rfl rfl ?_
  refine v_aload_n 52 rfl dX5_end_51 rfl rfl ?_
  refine v_get (ci := 5) (C := RX5) (T := TX5) (N := 25) (v := .int (nI mz)) 55 rfl 0 7 dX5_end_52 rfl (Nat.le_of_ble_eq_true rfl) i5 (by decide +kernel) rfl rfl ?_
  refine v_iast (j := i) (w' := wM ad cI cZ le la kd fs sc (upd mi i (nI mz)) bh mz oo ie (mo - 1) mp mf mq ms (nI 0) mc no lf he pi ot bf ar md) 56 rfl 6 0 dX5_end_55 rfl rfl (by omega) (by decide) rfl ?_
  refine v_aload_n 57 rfl dX5_end_56 rfl rfl ?_
  refine v_get (ci := 5) (C := RX5) (T := TX5) (N := 25) (v := .ref (ad 7)) 60 rfl 0 6 dX5_end_57 rfl (Nat.le_of_ble_eq_true rfl) i5 (by decide +kernel) rfl rfl ?_
  refine v_iload_n 61 rfl dX5_end_60 rfl rfl ?_
  refine v_aload_n 62 rfl dX5_end_61 rfl rfl ?_
  refine v_get (ci := 5) (C := RX5) (T := TX5) (N := 25) (v := .int (nI mz)) 65 rfl 0 7 dX5_end_62 rfl (Nat.le_of_ble_eq_true rfl) i5 (by decide +kernel) rfl rfl ?_
  refine v_iast (j := i) (w' := wM ad cI cZ le la kd fs sc (upd mi i (nI mz)) (upd bh i (nI mz)) mz oo ie (mo - 1) mp mf mq ms (nI 0) mc no lf he pi ot bf ar md) 66 rfl 7 0 dX5_end_65 rfl rfl (by omega) (by decide) rfl ?_
  refine v_iconst (v := nI 1) 67 rfl dX5_end_66 (by decide) ?_
  refine v_top (v' := bI true) (by decide) ?_
  exact v_zret dX5_end_67 rfl rfl rfl

set_option maxRecDepth 100000 in
set_option maxHeartbeats 4000000 in
theorem m_endE {D : va_G} {cI cZ cJ : ClassId} {l : Launch} {ad : Nat → Nat} {le : Nat → Int32} {la : Nat → Int32} {kd : Nat → Int32} {fs : Nat → Int32} {sc : Nat → Int32} {mi : Nat → Int32} {bh : Nat → Int32} {mz : Nat} {oo : Nat → Int32} {ie : Nat → Int32} {mo : Nat} {mp : Int32} {mf : Int32} {mq : Int32} {ms : Nat} {mt : Int32} {mc : Int32} {no : Nat → Int32} {lf : Nat → Int32} {he : Nat → Int32} {pi : Nat → Int32} {ot : Nat → Int32} {bf : Nat → Int32} {ar : Nat → Int32} {md : Nat} (i : Nat) (h0 : 0 < mo) (ho : mo ≤ 6) (hi : oo (mo - 1) = nI i) (hi2 : i < 40) (hie : ie (mo - 1) = bI true) : KM D (tyL cI cZ cJ) l yX5_end wsX5_end 0 0 [.ref (ad 0)] (wM ad cI cZ le la kd fs sc mi bh mz oo ie mo mp mf mq ms mt mc no lf he pi ot bf ar md) (some (.int (bI true))) (wM ad cI cZ le la kd fs sc mi (upd bh i (nI mz)) mz oo ie (mo - 1) mp mf mq ms (nI 0) mc no lf he pi ot bf ar md) := by
  refine KM.of (cc := cX5_end) (nL := 2) (ret := (some .boolean)) (by decide +kernel) rfl (Nat.le_of_ble_eq_true rfl) ?_
  have i5 : ∀ w ∈ u_ws RX5 TX5 25, w ∈ wsX5_end := by decide +kernel
  refine v_aload_n 1 rfl dX5_end_0 rfl rfl ?_
  refine v_iconst (v := nI 0) 2 rfl dX5_end_1 (by decide) ?_
  refine v_put (ci := 5) (C := RX5) (T := TX5) (ty0 := tyX5) (N := 25) (ty := .int) (w' := wM ad cI cZ le la kd fs sc mi bh mz oo ie mo mp mf mq ms (nI 0) mc no lf he pi ot bf ar md) 5 rfl 0 15 dX5_end_2 rfl (Nat.le_of_ble_eq_true rfl) i5 tyX5_ok nmX5 (by decide +kernel) rfl (by decide +kernel) rfl rfl rfl (Nat.le_of_ble_eq_true rfl) rfl ?_
  refine v_aload_n 6 rfl dX5_end_5 rfl rfl ?_
  refine v_get (ci := 5) (C := RX5) (T := TX5) (N := 25) (v := .int (nI mo)) 9 rfl 0 10 dX5_end_6 rfl (Nat.le_of_ble_eq_true rfl) i5 (by decide +kernel) rfl rfl ?_
  refine v_if_neN (a := mo) 14 12 rfl dX5_end_9 (by decide) (by omega) (fun c9 => ?_) (fun q => False.elim (by omega))
  refine v_aload_n 15 rfl dX5_end_14 rfl rfl ?_
  refine v_aload_n 16 rfl dX5_end_15 rfl rfl ?_
  refine v_get (ci := 5) (C := RX5) (T := TX5) (N := 25) (v := .int (nI mo)) 19 rfl 0 10 dX5_end_16 rfl (Nat.le_of_ble_eq_true rfl) i5 (by decide +kernel) rfl rfl ?_
  refine v_iconst (v := nI 1) 20 rfl dX5_end_19 (by decide) ?_
  refine v_isubN (a := mo) (b := 1) 21 rfl dX5_end_20 (by omega) ?_
  refine v_put (ci := 5) (C := RX5) (T := TX5) (ty0 := tyX5) (N := 25) (ty := .int) (w' := wM ad cI cZ le la kd fs sc mi bh mz oo ie (mo - 1) mp mf mq ms (nI 0) mc no lf he pi ot bf ar md) 24 rfl 0 10 dX5_end_21 rfl (Nat.le_of_ble_eq_true rfl) i5 tyX5_ok nmX5 (by decide +kernel) rfl (by decide +kernel) rfl rfl rfl (Nat.le_of_ble_eq_true rfl) rfl ?_
  refine v_aload_n 25 rfl dX5_end_24 rfl rfl ?_
  refine v_get (ci := 5) (C := RX5) (T := TX5) (N := 25) (v := .ref (ad 8)) 28 rfl 0 8 dX5_end_25 rfl (Nat.le_of_ble_eq_true rfl) i5 (by decide +kernel) rfl rfl ?_
  refine v_aload_n 29 rfl dX5_end_28 rfl rfl ?_
  refine v_get (ci := 5) (C := RX5) (T := TX5) (N := 25) (v := .int (nI (mo - 1))) 32 rfl 0 10 dX5_end_29 rfl (Nat.le_of_ble_eq_true rfl) i5 (by decide +kernel) rfl rfl ?_
  refine v_iald (j := mo - 1) (v := nI i) 33 rfl 8 0 dX5_end_32 rfl rfl (by omega) (by decide) hi ?_
  refine v_istore_n (lv' := [(1, .int (nI i)), (0, .ref (ad 0))]) 34 rfl dX5_end_33 rfl (Nat.le_of_ble_eq_true rfl) rfl ?_
  refine v_aload_n 35 rfl dX5_end_34 rfl rfl ?_
  refine v_get (ci := 5) (C := RX5) (T := TX5) (N := 25) (v := .ref (ad 9)) 38 rfl 0 9 dX5_end_35 rfl (Nat.le_of_ble_eq_true rfl) i5 (by decide +kernel) rfl rfl ?_
  refine v_aload_n 39 rfl dX5_end_38 rfl rfl ?_
  refine v_get (ci := 5) (C := RX5) (T := TX5) (N := 25) (v := .int (nI (mo - 1))) 42 rfl 0 10 dX5_end_39 rfl (Nat.le_of_ble_eq_true rfl) i5 (by decide +kernel) rfl rfl ?_
  refine v_zald (j := mo - 1) (v := bI true) 43 rfl 9 1 dX5_end_42 rfl rfl (by omega) (by decide) hie ?_
  refine v_if_neB (b := true) 56 46 rfl dX5_end_43 (by decide) (fun c43 => ?_) (fun q => False.elim (by cases q))
  refine v_aload_n 57 rfl dX5_end_56 rfl rfl ?_
  refine v_get (ci := 5) (C := RX5) (T := TX5) (N := 25) (v := .ref (ad 7)) 60 rfl 0 6 dX5_end_57 rfl (Nat.le_of_ble_eq_true rfl) i5 (by decide +kernel) rfl rfl ?_
  refine v_iload_n 61 rfl dX5_end_60 rfl rfl ?_
  refine v_aload_n 62 rfl dX5_end_61 rfl rfl ?_
  refine v_get (ci := 5) (C := RX5) (T := TX5) (N := 25) (v := .int (nI mz)) 65 rfl 0 7 dX5_end_62 rfl (Nat.le_of_ble_eq_true rfl) i5 (by decide +kernel) rfl rfl ?_
  refine v_iast (j := i) (w' := wM ad cI cZ le la kd fs sc mi (upd bh i (nI mz)) mz oo ie (mo - 1) mp mf mq ms (nI 0) mc no lf he pi ot bf ar md) 66 rfl 7 0 dX5_end_65 rfl rfl (by omega) (by decide) rfl ?_
  refine v_iconst (v := nI 1) 67 rfl dX5_end_66 (by decide) ?_
  refine v_top (v' := bI true) (by decide) ?_
  exact v_zret dX5_end_67 rfl rfl rfl

set_option maxRecDepth 100000 in
set_option maxHeartbeats 4000000 in
theorem m_clear {D : va_G} {cI cZ cJ : ClassId} {l : Launch} {ad : Nat → Nat} {le : Nat → Int32} {la : Nat → Int32} {kd : Nat → Int32} {fs : Nat → Int32} {sc : Nat → Int32} {mi : Nat → Int32} {bh : Nat → Int32} {mz : Nat} {oo : Nat → Int32} {ie : Nat → Int32} {mo : Nat} {mp : Int32} {mf : Int32} {mq : Int32} {ms : Nat} {mt : Int32} {mc : Int32} {no : Nat → Int32} {lf : Nat → Int32} {he : Nat → Int32} {pi : Nat → Int32} {ot : Nat → Int32} {bf : Nat → Int32} {ar : Nat → Int32} {md : Nat}  : KM D (tyL cI cZ cJ) l yX5_clear wsX5_clear 0 0 [.ref (ad 0)] (wM ad cI cZ le la kd fs sc mi bh mz oo ie mo mp mf mq ms mt mc no lf he pi ot bf ar md) none (wM ad cI cZ le la kd fs sc mi bh 0 oo ie 0 mp mf mq ms (nI 0) mc no lf he pi ot bf ar md) := by
  refine KM.of (cc := cX5_clear) (nL := 1) (ret := none) (by decide +kernel) rfl (Nat.le_of_ble_eq_true rfl) ?_
  have i5 : ∀ w ∈ u_ws RX5 TX5 25, w ∈ wsX5_clear := by decide +kernel
  refine v_aload_n 1 rfl dX5_clear_0 rfl rfl ?_
  refine v_iconst (v := nI 0) 2 rfl dX5_clear_1 (by decide) ?_
  refine v_put (ci := 5) (C := RX5) (T := TX5) (ty0 := tyX5) (N := 25) (ty := .int) (w' := wM ad cI cZ le la kd fs sc mi bh mz oo ie mo mp mf mq ms (nI 0) mc no lf he pi ot bf ar md) 5 rfl 0 15 dX5_clear_2 rfl (Nat.le_of_ble_eq_true rfl) i5 tyX5_ok nmX5 (by decide +kernel) rfl (by decide +kernel) rfl rfl rfl (Nat.le_of_ble_eq_true rfl) rfl ?_
  refine v_aload_n 6 rfl dX5_clear_5 rfl rfl ?_
  refine v_iconst (v := nI 0) 7 rfl dX5_clear_6 (by decide) ?_
  refine v_put (ci := 5) (C := RX5) (T := TX5) (ty0 := tyX5) (N := 25) (ty := .int) (w' := wM ad cI cZ le la kd fs sc mi bh 0 oo ie mo mp mf mq ms (nI 0) mc no lf he pi ot bf ar md) 10 rfl 0 7 dX5_clear_7 rfl (Nat.le_of_ble_eq_true rfl) i5 tyX5_ok nmX5 (by decide +kernel) rfl (by decide +kernel) rfl rfl rfl (Nat.le_of_ble_eq_true rfl) rfl ?_
  refine v_aload_n 11 rfl dX5_clear_10 rfl rfl ?_
  refine v_iconst (v := nI 0) 12 rfl dX5_clear_11 (by decide) ?_
  refine v_put (ci := 5) (C := RX5) (T := TX5) (ty0 := tyX5) (N := 25) (ty := .int) (w' := wM ad cI cZ le la kd fs sc mi bh 0 oo ie 0 mp mf mq ms (nI 0) mc no lf he pi ot bf ar md) 15 rfl 0 10 dX5_clear_12 rfl (Nat.le_of_ble_eq_true rfl) i5 tyX5_ok nmX5 (by decide +kernel) rfl (by decide +kernel) rfl rfl rfl (Nat.le_of_ble_eq_true rfl) rfl ?_
  exact v_vret dX5_clear_15 rfl rfl rfl

set_option maxRecDepth 100000 in
set_option maxHeartbeats 4000000 in
theorem m_size {D : va_G} {cI cZ cJ : ClassId} {l : Launch} {ad : Nat → Nat} {le : Nat → Int32} {la : Nat → Int32} {kd : Nat → Int32} {fs : Nat → Int32} {sc : Nat → Int32} {mi : Nat → Int32} {bh : Nat → Int32} {mz : Nat} {oo : Nat → Int32} {ie : Nat → Int32} {mo : Nat} {mp : Int32} {mf : Int32} {mq : Int32} {ms : Nat} {mt : Int32} {mc : Int32} {no : Nat → Int32} {lf : Nat → Int32} {he : Nat → Int32} {pi : Nat → Int32} {ot : Nat → Int32} {bf : Nat → Int32} {ar : Nat → Int32} {md : Nat}  : KM D (tyL cI cZ cJ) l yX5_size wsX5_size 0 0 [.ref (ad 0)] (wM ad cI cZ le la kd fs sc mi bh mz oo ie mo mp mf mq ms mt mc no lf he pi ot bf ar md) (some (.int (nI mz))) (wM ad cI cZ le la kd fs sc mi bh mz oo ie mo mp mf mq ms (nI 0) mc no lf he pi ot bf ar md) := by
  refine KM.of (cc := cX5_size) (nL := 1) (ret := (some .int)) (by decide +kernel) rfl (Nat.le_of_ble_eq_true rfl) ?_
  have i5 : ∀ w ∈ u_ws RX5 TX5 25, w ∈ wsX5_size := by decide +kernel
  refine v_aload_n 1 rfl dX5_size_0 rfl rfl ?_
  refine v_iconst (v := nI 0) 2 rfl dX5_size_1 (by decide) ?_
  refine v_put (ci := 5) (C := RX5) (T := TX5) (ty0 := tyX5) (N := 25) (ty := .int) (w' := wM ad cI cZ le la kd fs sc mi bh mz oo ie mo mp mf mq ms (nI 0) mc no lf he pi ot bf ar md) 5 rfl 0 15 dX5_size_2 rfl (Nat.le_of_ble_eq_true rfl) i5 tyX5_ok nmX5 (by decide +kernel) rfl (by decide +kernel) rfl rfl rfl (Nat.le_of_ble_eq_true rfl) rfl ?_
  refine v_aload_n 6 rfl dX5_size_5 rfl rfl ?_
  refine v_get (ci := 5) (C := RX5) (T := TX5) (N := 25) (v := .int (nI mz)) 9 rfl 0 7 dX5_size_6 rfl (Nat.le_of_ble_eq_true rfl) i5 (by decide +kernel) rfl rfl ?_
  exact v_iret dX5_size_9 rfl rfl rfl

set_option maxRecDepth 100000 in
set_option maxHeartbeats 4000000 in
theorem m_faultAt1 {D : va_G} {cI cZ cJ : ClassId} {l : Launch} {ad : Nat → Nat} {le : Nat → Int32} {la : Nat → Int32} {kd : Nat → Int32} {fs : Nat → Int32} {sc : Nat → Int32} {mi : Nat → Int32} {bh : Nat → Int32} {mz : Nat} {oo : Nat → Int32} {ie : Nat → Int32} {mo : Nat} {mp : Int32} {mf : Int32} {mq : Int32} {ms : Nat} {mt : Int32} {mc : Int32} {no : Nat → Int32} {lf : Nat → Int32} {he : Nat → Int32} {pi : Nat → Int32} {ot : Nat → Int32} {bf : Nat → Int32} {ar : Nat → Int32} {md : Nat} (hc : mc = nI 1) : KM D (tyL cI cZ cJ) l yX5_faultAt wsX5_faultAt 0 0 [.ref (ad 0)] (wM ad cI cZ le la kd fs sc mi bh mz oo ie mo mp mf mq ms mt mc no lf he pi ot bf ar md) (some (.int mp)) (wM ad cI cZ le la kd fs sc mi bh mz oo ie mo mp mf mq ms (nI 0) mc no lf he pi ot bf ar md) := by
  refine KM.of (cc := cX5_faultAt) (nL := 1) (ret := (some .int)) (by decide +kernel) rfl (Nat.le_of_ble_eq_true rfl) ?_
  have i5 : ∀ w ∈ u_ws RX5 TX5 25, w ∈ wsX5_faultAt := by decide +kernel
  refine v_aload_n 1 rfl dX5_faultAt_0 rfl rfl ?_
  refine v_iconst (v := nI 0) 2 rfl dX5_faultAt_1 (by decide) ?_
  refine v_put (ci := 5) (C := RX5) (T := TX5) (ty0 := tyX5) (N := 25) (ty := .int) (w' := wM ad cI cZ le la kd fs sc mi bh mz oo ie mo mp mf mq ms (nI 0) mc no lf he pi ot bf ar md) 5 rfl 0 15 dX5_faultAt_2 rfl (Nat.le_of_ble_eq_true rfl) i5 tyX5_ok nmX5 (by decide +kernel) rfl (by decide +kernel) rfl rfl rfl (Nat.le_of_ble_eq_true rfl) rfl ?_
  refine v_aload_n 6 rfl dX5_faultAt_5 rfl rfl ?_
  refine v_get (ci := 5) (C := RX5) (T := TX5) (N := 25) (v := .int mc) 9 rfl 0 16 dX5_faultAt_6 rfl (Nat.le_of_ble_eq_true rfl) i5 (by decide +kernel) rfl rfl ?_
  refine v_if_eq 19 12 rfl dX5_faultAt_9 (by decide) (fun q => False.elim (by rw [hc] at q; exact absurd q (by decide))) (fun c9 => ?_)
  refine v_aload_n 13 rfl dX5_faultAt_12 rfl rfl ?_
  refine v_get (ci := 5) (C := RX5) (T := TX5) (N := 25) (v := .int mp) 16 rfl 0 11 dX5_faultAt_13 rfl (Nat.le_of_ble_eq_true rfl) i5 (by decide +kernel) rfl rfl ?_
  refine v_goto 20 dX5_faultAt_16 (by decide) ?_
  exact v_iret dX5_faultAt_20 rfl rfl rfl

set_option maxRecDepth 100000 in
set_option maxHeartbeats 4000000 in
theorem m_faultAt0 {D : va_G} {cI cZ cJ : ClassId} {l : Launch} {ad : Nat → Nat} {le : Nat → Int32} {la : Nat → Int32} {kd : Nat → Int32} {fs : Nat → Int32} {sc : Nat → Int32} {mi : Nat → Int32} {bh : Nat → Int32} {mz : Nat} {oo : Nat → Int32} {ie : Nat → Int32} {mo : Nat} {mp : Int32} {mf : Int32} {mq : Int32} {ms : Nat} {mt : Int32} {mc : Int32} {no : Nat → Int32} {lf : Nat → Int32} {he : Nat → Int32} {pi : Nat → Int32} {ot : Nat → Int32} {bf : Nat → Int32} {ar : Nat → Int32} {md : Nat} (hc : mc = 0) : KM D (tyL cI cZ cJ) l yX5_faultAt wsX5_faultAt 0 0 [.ref (ad 0)] (wM ad cI cZ le la kd fs sc mi bh mz oo ie mo mp mf mq ms mt mc no lf he pi ot bf ar md) (some (.int (-1))) (wM ad cI cZ le la kd fs sc mi bh mz oo ie mo mp mf mq ms (nI 0) mc no lf he pi ot bf ar md) := by
  refine KM.of (cc := cX5_faultAt) (nL := 1) (ret := (some .int)) (by decide +kernel) rfl (Nat.le_of_ble_eq_true rfl) ?_
  have i5 : ∀ w ∈ u_ws RX5 TX5 25, w ∈ wsX5_faultAt := by decide +kernel
  refine v_aload_n 1 rfl dX5_faultAt_0 rfl rfl ?_
  refine v_iconst (v := nI 0) 2 rfl dX5_faultAt_1 (by decide) ?_
  refine v_put (ci := 5) (C := RX5) (T := TX5) (ty0 := tyX5) (N := 25) (ty := .int) (w' := wM ad cI cZ le la kd fs sc mi bh mz oo ie mo mp mf mq ms (nI 0) mc no lf he pi ot bf ar md) 5 rfl 0 15 dX5_faultAt_2 rfl (Nat.le_of_ble_eq_true rfl) i5 tyX5_ok nmX5 (by decide +kernel) rfl (by decide +kernel) rfl rfl rfl (Nat.le_of_ble_eq_true rfl) rfl ?_
  refine v_aload_n 6 rfl dX5_faultAt_5 rfl rfl ?_
  refine v_get (ci := 5) (C := RX5) (T := TX5) (N := 25) (v := .int mc) 9 rfl 0 16 dX5_faultAt_6 rfl (Nat.le_of_ble_eq_true rfl) i5 (by decide +kernel) rfl rfl ?_
  refine v_if_eq 19 12 rfl dX5_faultAt_9 (by decide) (fun c9 => ?_) (fun q => False.elim (by exact absurd hc q))
  refine v_iconst (v := -1) 20 rfl dX5_faultAt_19 (by decide) ?_
  exact v_iret dX5_faultAt_20 rfl rfl rfl

set_option maxRecDepth 100000 in
set_option maxHeartbeats 4000000 in
theorem m_held {D : va_G} {cI cZ cJ : ClassId} {l : Launch} {ad : Nat → Nat} {le : Nat → Int32} {la : Nat → Int32} {kd : Nat → Int32} {fs : Nat → Int32} {sc : Nat → Int32} {mi : Nat → Int32} {bh : Nat → Int32} {mz : Nat} {oo : Nat → Int32} {ie : Nat → Int32} {mo : Nat} {mp : Int32} {mf : Int32} {mq : Int32} {ms : Nat} {mt : Int32} {mc : Int32} {no : Nat → Int32} {lf : Nat → Int32} {he : Nat → Int32} {pi : Nat → Int32} {ot : Nat → Int32} {bf : Nat → Int32} {ar : Nat → Int32} {md : Nat} (i v : Nat) (b : Int32) (hc : mc = nI 1) (hi : i < 40) (hv : v < 4) (hb : he (4 * i + v) = b) : KM D (tyL cI cZ cJ) l yX5_held wsX5_held 1 21 [.ref (ad 0), .int (nI i), .int (nI v)] (wM ad cI cZ le la kd fs sc mi bh mz oo ie mo mp mf mq ms mt mc no lf he pi ot bf ar md) (some (.int b)) (wM ad cI cZ le la kd fs sc mi bh mz oo ie mo mp mf mq ms (nI 0) mc no lf he pi ot bf ar md) := by
  refine KM.of (cc := cX5_held) (nL := 3) (ret := (some .int)) (by decide +kernel) rfl (Nat.le_of_ble_eq_true rfl) ?_
  have i5 : ∀ w ∈ u_ws RX5 TX5 25, w ∈ wsX5_held := by decide +kernel
  refine v_aload_n 1 rfl dX5_held_0 rfl rfl ?_
  refine v_iconst (v := nI 0) 2 rfl dX5_held_1 (by decide) ?_
  refine v_put (ci := 5) (C := RX5) (T := TX5) (ty0 := tyX5) (N := 25) (ty := .int) (w' := wM ad cI cZ le la kd fs sc mi bh mz oo ie mo mp mf mq ms (nI 0) mc no lf he pi ot bf ar md) 5 rfl 0 15 dX5_held_2 rfl (Nat.le_of_ble_eq_true rfl) i5 tyX5_ok nmX5 (by decide +kernel) rfl (by decide +kernel) rfl rfl rfl (Nat.le_of_ble_eq_true rfl) rfl ?_
  refine v_aload_n 6 rfl dX5_held_5 rfl rfl ?_
  refine v_get (ci := 5) (C := RX5) (T := TX5) (N := 25) (v := .int mc) 9 rfl 0 16 dX5_held_6 rfl (Nat.le_of_ble_eq_true rfl) i5 (by decide +kernel) rfl rfl ?_
  refine v_if_eq 42 12 rfl dX5_held_9 (by decide) (fun q => False.elim (by rw [hc] at q; exact absurd q (by decide))) (fun c9 => ?_)
  refine v_iload_n 13 rfl dX5_held_12 rfl rfl ?_
  refine v_bipush (v := nI 39) 15 rfl dX5_held_13 (by decide) ?_
  refine v_callS (n := 2) 18 rfl (m_withinT i 39 (by omega) (by omega)) gX5_held_X5_within rfl (by decide +kernel) rfl ⟨(Nat.le_of_ble_eq_true rfl), (Nat.le_of_ble_eq_true rfl)⟩ rfl (Nat.le_of_ble_eq_true rfl) dX5_held_15 ⟨Nat.zero_le _, Nat.zero_le _⟩ ?_
  refine v_st (st' := [.int (bI true)]) rfl ?_
  refine v_if_eqB (b := true) 42 21 rfl dX5_held_18 (by decide) (fun q => False.elim (by cases q)) (fun c18 => ?_)
  refine v_iload_n 22 rfl dX5_held_21 rfl rfl ?_
  refine v_iconst (v := nI 3) 23 rfl dX5_held_22 (by decide) ?_
  refine v_callS (n := 2) 26 rfl (m_withinT v 3 (by omega) (by omega)) gX5_held_X5_within rfl (by decide +kernel) rfl ⟨(Nat.le_of_ble_eq_true rfl), (Nat.le_of_ble_eq_true rfl)⟩ rfl (Nat.le_of_ble_eq_true rfl) dX5_held_23 ⟨Nat.zero_le _, Nat.zero_le _⟩ ?_
  refine v_st (st' := [.int (bI true)]) rfl ?_
  refine v_if_eqB (b := true) 42 29 rfl dX5_held_26 (by decide) (fun q => False.elim (by cases q)) (fun c26 => ?_)
  refine v_aload_n 30 rfl dX5_held_29 rfl rfl ?_
  refine v_get (ci := 5) (C := RX5) (T := TX5) (N := 25) (v := .ref (ad 12)) 33 rfl 0 19 dX5_held_30 rfl (Nat.le_of_ble_eq_true rfl) i5 (by decide +kernel) rfl rfl ?_
  refine v_iconst (v := nI 4) 34 rfl dX5_held_33 (by decide) ?_
  refine v_iload_n 35 rfl dX5_held_34 rfl rfl ?_
  refine v_imulN (a := 4) (b := i) 36 rfl dX5_held_35 ?_
  refine v_iload_n 37 rfl dX5_held_36 rfl rfl ?_
  refine v_iaddN (a := 4 * i) (b := v) 38 rfl dX5_held_37 ?_
  refine v_iald (j := (4 * i) + v) (v := b) 39 rfl 12 0 dX5_held_38 rfl rfl (by omega) (by decide) hb ?_
  refine v_goto 44 dX5_held_39 (by decide) ?_
  exact v_iret dX5_held_44 rfl rfl rfl

set_option maxRecDepth 100000 in
set_option maxHeartbeats 4000000 in
theorem m_heldNo {D : va_G} {cI cZ cJ : ClassId} {l : Launch} {ad : Nat → Nat} {le : Nat → Int32} {la : Nat → Int32} {kd : Nat → Int32} {fs : Nat → Int32} {sc : Nat → Int32} {mi : Nat → Int32} {bh : Nat → Int32} {mz : Nat} {oo : Nat → Int32} {ie : Nat → Int32} {mo : Nat} {mp : Int32} {mf : Int32} {mq : Int32} {ms : Nat} {mt : Int32} {mc : Int32} {no : Nat → Int32} {lf : Nat → Int32} {he : Nat → Int32} {pi : Nat → Int32} {ot : Nat → Int32} {bf : Nat → Int32} {ar : Nat → Int32} {md : Nat} (i v : Int32) (hc : mc = nI 1) (h : (bel i (nI 40) && bel v (nI 4)) = false) : KM D (tyL cI cZ cJ) l yX5_held wsX5_held 1 21 [.ref (ad 0), .int i, .int v] (wM ad cI cZ le la kd fs sc mi bh mz oo ie mo mp mf mq ms mt mc no lf he pi ot bf ar md) (some (.int (-2))) (wM ad cI cZ le la kd fs sc mi bh mz oo ie mo mp mf mq ms (nI 0) mc no lf he pi ot bf ar md) := by
  refine KM.of (cc := cX5_held) (nL := 3) (ret := (some .int)) (by decide +kernel) rfl (Nat.le_of_ble_eq_true rfl) ?_
  have i5 : ∀ w ∈ u_ws RX5 TX5 25, w ∈ wsX5_held := by decide +kernel
  refine v_aload_n 1 rfl dX5_held_0 rfl rfl ?_
  refine v_iconst (v := nI 0) 2 rfl dX5_held_1 (by decide) ?_
  refine v_put (ci := 5) (C := RX5) (T := TX5) (ty0 := tyX5) (N := 25) (ty := .int) (w' := wM ad cI cZ le la kd fs sc mi bh mz oo ie mo mp mf mq ms (nI 0) mc no lf he pi ot bf ar md) 5 rfl 0 15 dX5_held_2 rfl (Nat.le_of_ble_eq_true rfl) i5 tyX5_ok nmX5 (by decide +kernel) rfl (by decide +kernel) rfl rfl rfl (Nat.le_of_ble_eq_true rfl) rfl ?_
  refine v_aload_n 6 rfl dX5_held_5 rfl rfl ?_
  refine v_get (ci := 5) (C := RX5) (T := TX5) (N := 25) (v := .int mc) 9 rfl 0 16 dX5_held_6 rfl (Nat.le_of_ble_eq_true rfl) i5 (by decide +kernel) rfl rfl ?_
  refine v_if_eq 42 12 rfl dX5_held_9 (by decide) (fun q => False.elim (by rw [hc] at q; exact absurd q (by decide))) (fun c9 => ?_)
  refine v_iload_n 13 rfl dX5_held_12 rfl rfl ?_
  refine v_bipush (v := nI 39) 15 rfl dX5_held_13 (by decide) ?_
  refine v_callS (n := 2) 18 rfl (m_withinB i 39 (by omega)) gX5_held_X5_within rfl (by decide +kernel) rfl ⟨(Nat.le_of_ble_eq_true rfl), (Nat.le_of_ble_eq_true rfl)⟩ rfl (Nat.le_of_ble_eq_true rfl) dX5_held_15 ⟨Nat.zero_le _, Nat.zero_le _⟩ ?_
  refine v_st (st' := [.int (bI (bel i (nI 40)))]) rfl ?_
  refine v_if_eqB (b := bel i (nI 40)) 42 21 rfl dX5_held_18 (by decide) (fun c18 => ?_) (fun c18 => ?_)
  · refine v_bipush (v := -2) 44 rfl dX5_held_42 (by decide) ?_
    exact v_iret dX5_held_44 rfl rfl rfl
  · refine v_iload_n 22 rfl dX5_held_21 rfl rfl ?_
    refine v_iconst (v := nI 3) 23 rfl dX5_held_22 (by decide) ?_
    refine v_callS (n := 2) 26 rfl (m_withinB v 3 (by omega)) gX5_held_X5_within rfl (by decide +kernel) rfl ⟨(Nat.le_of_ble_eq_true rfl), (Nat.le_of_ble_eq_true rfl)⟩ rfl (Nat.le_of_ble_eq_true rfl) dX5_held_23 ⟨Nat.zero_le _, Nat.zero_le _⟩ ?_
    refine v_st (st' := [.int (bI (bel v (nI 4)))]) rfl ?_
    refine v_if_eqB (b := bel v (nI 4)) 42 29 rfl dX5_held_26 (by decide) (fun c26 => ?_) (fun c26 => ?_)
    · refine v_bipush (v := -2) 44 rfl dX5_held_42 (by decide) ?_
      exact v_iret dX5_held_44 rfl rfl rfl
    · exact absurd h (by simp [*])

set_option maxRecDepth 100000 in
set_option maxHeartbeats 4000000 in
theorem m_held0 {D : va_G} {cI cZ cJ : ClassId} {l : Launch} {ad : Nat → Nat} {le : Nat → Int32} {la : Nat → Int32} {kd : Nat → Int32} {fs : Nat → Int32} {sc : Nat → Int32} {mi : Nat → Int32} {bh : Nat → Int32} {mz : Nat} {oo : Nat → Int32} {ie : Nat → Int32} {mo : Nat} {mp : Int32} {mf : Int32} {mq : Int32} {ms : Nat} {mt : Int32} {mc : Int32} {no : Nat → Int32} {lf : Nat → Int32} {he : Nat → Int32} {pi : Nat → Int32} {ot : Nat → Int32} {bf : Nat → Int32} {ar : Nat → Int32} {md : Nat} (i v : Int32) (hc : mc = 0) : KM D (tyL cI cZ cJ) l yX5_held wsX5_held 0 0 [.ref (ad 0), .int i, .int v] (wM ad cI cZ le la kd fs sc mi bh mz oo ie mo mp mf mq ms mt mc no lf he pi ot bf ar md) (some (.int (-2))) (wM ad cI cZ le la kd fs sc mi bh mz oo ie mo mp mf mq ms (nI 0) mc no lf he pi ot bf ar md) := by
  refine KM.of (cc := cX5_held) (nL := 3) (ret := (some .int)) (by decide +kernel) rfl (Nat.le_of_ble_eq_true rfl) ?_
  have i5 : ∀ w ∈ u_ws RX5 TX5 25, w ∈ wsX5_held := by decide +kernel
  refine v_aload_n 1 rfl dX5_held_0 rfl rfl ?_
  refine v_iconst (v := nI 0) 2 rfl dX5_held_1 (by decide) ?_
  refine v_put (ci := 5) (C := RX5) (T := TX5) (ty0 := tyX5) (N := 25) (ty := .int) (w' := wM ad cI cZ le la kd fs sc mi bh mz oo ie mo mp mf mq ms (nI 0) mc no lf he pi ot bf ar md) 5 rfl 0 15 dX5_held_2 rfl (Nat.le_of_ble_eq_true rfl) i5 tyX5_ok nmX5 (by decide +kernel) rfl (by decide +kernel) rfl rfl rfl (Nat.le_of_ble_eq_true rfl) rfl ?_
  refine v_aload_n 6 rfl dX5_held_5 rfl rfl ?_
  refine v_get (ci := 5) (C := RX5) (T := TX5) (N := 25) (v := .int mc) 9 rfl 0 16 dX5_held_6 rfl (Nat.le_of_ble_eq_true rfl) i5 (by decide +kernel) rfl rfl ?_
  refine v_if_eq 42 12 rfl dX5_held_9 (by decide) (fun c9 => ?_) (fun q => False.elim (by exact absurd hc q))
  refine v_bipush (v := -2) 44 rfl dX5_held_42 (by decide) ?_
  exact v_iret dX5_held_44 rfl rfl rfl

set_option maxRecDepth 100000 in
set_option maxHeartbeats 4000000 in
theorem m_runFault {D : va_G} {cI cZ cJ : ClassId} {l : Launch} {ad : Nat → Nat} {le : Nat → Int32} {la : Nat → Int32} {kd : Nat → Int32} {fs : Nat → Int32} {sc : Nat → Int32} {mi : Nat → Int32} {bh : Nat → Int32} {mz : Nat} {oo : Nat → Int32} {ie : Nat → Int32} {mo : Nat} {mp : Int32} {mf : Int32} {mq : Int32} {ms : Nat} {mt : Int32} {mc : Int32} {no : Nat → Int32} {lf : Nat → Int32} {he : Nat → Int32} {pi : Nat → Int32} {ot : Nat → Int32} {bf : Nat → Int32} {ar : Nat → Int32} {md : Nat}  : KM D (tyL cI cZ cJ) l yX5_runFault wsX5_runFault 0 0 [.ref (ad 0)] (wM ad cI cZ le la kd fs sc mi bh mz oo ie mo mp mf mq ms mt mc no lf he pi ot bf ar md) (some (.int mf)) (wM ad cI cZ le la kd fs sc mi bh mz oo ie mo mp mf mq ms (nI 0) mc no lf he pi ot bf ar md) := by
  refine KM.of (cc := cX5_runFault) (nL := 1) (ret := (some .int)) (by decide +kernel) rfl (Nat.le_of_ble_eq_true rfl) ?_
  have i5 : ∀ w ∈ u_ws RX5 TX5 25, w ∈ wsX5_runFault := by decide +kernel
  refine v_aload_n 1 rfl dX5_runFault_0 rfl rfl ?_
  refine v_iconst (v := nI 0) 2 rfl dX5_runFault_1 (by decide) ?_
  refine v_put (ci := 5) (C := RX5) (T := TX5) (ty0 := tyX5) (N := 25) (ty := .int) (w' := wM ad cI cZ le la kd fs sc mi bh mz oo ie mo mp mf mq ms (nI 0) mc no lf he pi ot bf ar md) 5 rfl 0 15 dX5_runFault_2 rfl (Nat.le_of_ble_eq_true rfl) i5 tyX5_ok nmX5 (by decide +kernel) rfl (by decide +kernel) rfl rfl rfl (Nat.le_of_ble_eq_true rfl) rfl ?_
  refine v_aload_n 6 rfl dX5_runFault_5 rfl rfl ?_
  refine v_get (ci := 5) (C := RX5) (T := TX5) (N := 25) (v := .int mf) 9 rfl 0 12 dX5_runFault_6 rfl (Nat.le_of_ble_eq_true rfl) i5 (by decide +kernel) rfl rfl ?_
  exact v_iret dX5_runFault_9 rfl rfl rfl

set_option maxRecDepth 100000 in
set_option maxHeartbeats 4000000 in
theorem m_runAt {D : va_G} {cI cZ cJ : ClassId} {l : Launch} {ad : Nat → Nat} {le : Nat → Int32} {la : Nat → Int32} {kd : Nat → Int32} {fs : Nat → Int32} {sc : Nat → Int32} {mi : Nat → Int32} {bh : Nat → Int32} {mz : Nat} {oo : Nat → Int32} {ie : Nat → Int32} {mo : Nat} {mp : Int32} {mf : Int32} {mq : Int32} {ms : Nat} {mt : Int32} {mc : Int32} {no : Nat → Int32} {lf : Nat → Int32} {he : Nat → Int32} {pi : Nat → Int32} {ot : Nat → Int32} {bf : Nat → Int32} {ar : Nat → Int32} {md : Nat}  : KM D (tyL cI cZ cJ) l yX5_runAt wsX5_runAt 0 0 [.ref (ad 0)] (wM ad cI cZ le la kd fs sc mi bh mz oo ie mo mp mf mq ms mt mc no lf he pi ot bf ar md) (some (.int mq)) (wM ad cI cZ le la kd fs sc mi bh mz oo ie mo mp mf mq ms (nI 0) mc no lf he pi ot bf ar md) := by
  refine KM.of (cc := cX5_runAt) (nL := 1) (ret := (some .int)) (by decide +kernel) rfl (Nat.le_of_ble_eq_true rfl) ?_
  have i5 : ∀ w ∈ u_ws RX5 TX5 25, w ∈ wsX5_runAt := by decide +kernel
  refine v_aload_n 1 rfl dX5_runAt_0 rfl rfl ?_
  refine v_iconst (v := nI 0) 2 rfl dX5_runAt_1 (by decide) ?_
  refine v_put (ci := 5) (C := RX5) (T := TX5) (ty0 := tyX5) (N := 25) (ty := .int) (w' := wM ad cI cZ le la kd fs sc mi bh mz oo ie mo mp mf mq ms (nI 0) mc no lf he pi ot bf ar md) 5 rfl 0 15 dX5_runAt_2 rfl (Nat.le_of_ble_eq_true rfl) i5 tyX5_ok nmX5 (by decide +kernel) rfl (by decide +kernel) rfl rfl rfl (Nat.le_of_ble_eq_true rfl) rfl ?_
  refine v_aload_n 6 rfl dX5_runAt_5 rfl rfl ?_
  refine v_get (ci := 5) (C := RX5) (T := TX5) (N := 25) (v := .int mq) 9 rfl 0 13 dX5_runAt_6 rfl (Nat.le_of_ble_eq_true rfl) i5 (by decide +kernel) rfl rfl ?_
  exact v_iret dX5_runAt_9 rfl rfl rfl

set_option maxRecDepth 100000 in
set_option maxHeartbeats 4000000 in
theorem m_steps {D : va_G} {cI cZ cJ : ClassId} {l : Launch} {ad : Nat → Nat} {le : Nat → Int32} {la : Nat → Int32} {kd : Nat → Int32} {fs : Nat → Int32} {sc : Nat → Int32} {mi : Nat → Int32} {bh : Nat → Int32} {mz : Nat} {oo : Nat → Int32} {ie : Nat → Int32} {mo : Nat} {mp : Int32} {mf : Int32} {mq : Int32} {ms : Nat} {mt : Int32} {mc : Int32} {no : Nat → Int32} {lf : Nat → Int32} {he : Nat → Int32} {pi : Nat → Int32} {ot : Nat → Int32} {bf : Nat → Int32} {ar : Nat → Int32} {md : Nat}  : KM D (tyL cI cZ cJ) l yX5_steps wsX5_steps 0 0 [.ref (ad 0)] (wM ad cI cZ le la kd fs sc mi bh mz oo ie mo mp mf mq ms mt mc no lf he pi ot bf ar md) (some (.int (nI ms))) (wM ad cI cZ le la kd fs sc mi bh mz oo ie mo mp mf mq ms (nI 0) mc no lf he pi ot bf ar md) := by
  refine KM.of (cc := cX5_steps) (nL := 1) (ret := (some .int)) (by decide +kernel) rfl (Nat.le_of_ble_eq_true rfl) ?_
  have i5 : ∀ w ∈ u_ws RX5 TX5 25, w ∈ wsX5_steps := by decide +kernel
  refine v_aload_n 1 rfl dX5_steps_0 rfl rfl ?_
  refine v_iconst (v := nI 0) 2 rfl dX5_steps_1 (by decide) ?_
  refine v_put (ci := 5) (C := RX5) (T := TX5) (ty0 := tyX5) (N := 25) (ty := .int) (w' := wM ad cI cZ le la kd fs sc mi bh mz oo ie mo mp mf mq ms (nI 0) mc no lf he pi ot bf ar md) 5 rfl 0 15 dX5_steps_2 rfl (Nat.le_of_ble_eq_true rfl) i5 tyX5_ok nmX5 (by decide +kernel) rfl (by decide +kernel) rfl rfl rfl (Nat.le_of_ble_eq_true rfl) rfl ?_
  refine v_aload_n 6 rfl dX5_steps_5 rfl rfl ?_
  refine v_get (ci := 5) (C := RX5) (T := TX5) (N := 25) (v := .int (nI ms)) 9 rfl 0 14 dX5_steps_6 rfl (Nat.le_of_ble_eq_true rfl) i5 (by decide +kernel) rfl rfl ?_
  exact v_iret dX5_steps_9 rfl rfl rfl

set_option maxRecDepth 100000 in
set_option maxHeartbeats 4000000 in
theorem m_left {D : va_G} {cI cZ cJ : ClassId} {l : Launch} {ad : Nat → Nat} {le : Nat → Int32} {la : Nat → Int32} {kd : Nat → Int32} {fs : Nat → Int32} {sc : Nat → Int32} {mi : Nat → Int32} {bh : Nat → Int32} {mz : Nat} {oo : Nat → Int32} {ie : Nat → Int32} {mo : Nat} {mp : Int32} {mf : Int32} {mq : Int32} {ms : Nat} {mt : Int32} {mc : Int32} {no : Nat → Int32} {lf : Nat → Int32} {he : Nat → Int32} {pi : Nat → Int32} {ot : Nat → Int32} {bf : Nat → Int32} {ar : Nat → Int32} {md : Nat} (v : Nat) (b : Int32) (hv : v < 4) (hb : lf v = b) : KM D (tyL cI cZ cJ) l yX5_left wsX5_left 1 21 [.ref (ad 0), .int (nI v)] (wM ad cI cZ le la kd fs sc mi bh mz oo ie mo mp mf mq ms mt mc no lf he pi ot bf ar md) (some (.int b)) (wM ad cI cZ le la kd fs sc mi bh mz oo ie mo mp mf mq ms (nI 0) mc no lf he pi ot bf ar md) := by
  refine KM.of (cc := cX5_left) (nL := 2) (ret := (some .int)) (by decide +kernel) rfl (Nat.le_of_ble_eq_true rfl) ?_
  have i5 : ∀ w ∈ u_ws RX5 TX5 25, w ∈ wsX5_left := by decide +kernel
  refine v_aload_n 1 rfl dX5_left_0 rfl rfl ?_
  refine v_iconst (v := nI 0) 2 rfl dX5_left_1 (by decide) ?_
  refine v_put (ci := 5) (C := RX5) (T := TX5) (ty0 := tyX5) (N := 25) (ty := .int) (w' := wM ad cI cZ le la kd fs sc mi bh mz oo ie mo mp mf mq ms (nI 0) mc no lf he pi ot bf ar md) 5 rfl 0 15 dX5_left_2 rfl (Nat.le_of_ble_eq_true rfl) i5 tyX5_ok nmX5 (by decide +kernel) rfl (by decide +kernel) rfl rfl rfl (Nat.le_of_ble_eq_true rfl) rfl ?_
  refine v_iload_n 6 rfl dX5_left_5 rfl rfl ?_
  refine v_iconst (v := nI 3) 7 rfl dX5_left_6 (by decide) ?_
  refine v_callS (n := 2) 10 rfl (m_withinT v 3 (by omega) (by omega)) gX5_left_X5_within rfl (by decide +kernel) rfl ⟨(Nat.le_of_ble_eq_true rfl), (Nat.le_of_ble_eq_true rfl)⟩ rfl (Nat.le_of_ble_eq_true rfl) dX5_left_7 ⟨Nat.zero_le _, Nat.zero_le _⟩ ?_
  refine v_st (st' := [.int (bI true)]) rfl ?_
  refine v_if_eqB (b := true) 22 13 rfl dX5_left_10 (by decide) (fun q => False.elim (by cases q)) (fun c10 => ?_)
  refine v_aload_n 14 rfl dX5_left_13 rfl rfl ?_
  refine v_get (ci := 5) (C := RX5) (T := TX5) (N := 25) (v := .ref (ad 11)) 17 rfl 0 18 dX5_left_14 rfl (Nat.le_of_ble_eq_true rfl) i5 (by decide +kernel) rfl rfl ?_
  refine v_iload_n 18 rfl dX5_left_17 rfl rfl ?_
  refine v_iald (j := v) (v := b) 19 rfl 11 0 dX5_left_18 rfl rfl (by omega) (by decide) hb ?_
  refine v_goto 24 dX5_left_19 (by decide) ?_
  exact v_iret dX5_left_24 rfl rfl rfl

set_option maxRecDepth 100000 in
set_option maxHeartbeats 4000000 in
theorem m_leftNo {D : va_G} {cI cZ cJ : ClassId} {l : Launch} {ad : Nat → Nat} {le : Nat → Int32} {la : Nat → Int32} {kd : Nat → Int32} {fs : Nat → Int32} {sc : Nat → Int32} {mi : Nat → Int32} {bh : Nat → Int32} {mz : Nat} {oo : Nat → Int32} {ie : Nat → Int32} {mo : Nat} {mp : Int32} {mf : Int32} {mq : Int32} {ms : Nat} {mt : Int32} {mc : Int32} {no : Nat → Int32} {lf : Nat → Int32} {he : Nat → Int32} {pi : Nat → Int32} {ot : Nat → Int32} {bf : Nat → Int32} {ar : Nat → Int32} {md : Nat} (v : Int32) (h : bel v (nI 4) = false) : KM D (tyL cI cZ cJ) l yX5_left wsX5_left 1 21 [.ref (ad 0), .int v] (wM ad cI cZ le la kd fs sc mi bh mz oo ie mo mp mf mq ms mt mc no lf he pi ot bf ar md) (some (.int (-2))) (wM ad cI cZ le la kd fs sc mi bh mz oo ie mo mp mf mq ms (nI 0) mc no lf he pi ot bf ar md) := by
  refine KM.of (cc := cX5_left) (nL := 2) (ret := (some .int)) (by decide +kernel) rfl (Nat.le_of_ble_eq_true rfl) ?_
  have i5 : ∀ w ∈ u_ws RX5 TX5 25, w ∈ wsX5_left := by decide +kernel
  refine v_aload_n 1 rfl dX5_left_0 rfl rfl ?_
  refine v_iconst (v := nI 0) 2 rfl dX5_left_1 (by decide) ?_
  refine v_put (ci := 5) (C := RX5) (T := TX5) (ty0 := tyX5) (N := 25) (ty := .int) (w' := wM ad cI cZ le la kd fs sc mi bh mz oo ie mo mp mf mq ms (nI 0) mc no lf he pi ot bf ar md) 5 rfl 0 15 dX5_left_2 rfl (Nat.le_of_ble_eq_true rfl) i5 tyX5_ok nmX5 (by decide +kernel) rfl (by decide +kernel) rfl rfl rfl (Nat.le_of_ble_eq_true rfl) rfl ?_
  refine v_iload_n 6 rfl dX5_left_5 rfl rfl ?_
  refine v_iconst (v := nI 3) 7 rfl dX5_left_6 (by decide) ?_
  refine v_callS (n := 2) 10 rfl (m_withinB v 3 (by omega)) gX5_left_X5_within rfl (by decide +kernel) rfl ⟨(Nat.le_of_ble_eq_true rfl), (Nat.le_of_ble_eq_true rfl)⟩ rfl (Nat.le_of_ble_eq_true rfl) dX5_left_7 ⟨Nat.zero_le _, Nat.zero_le _⟩ ?_
  refine v_st (st' := [.int (bI (bel v (nI 4)))]) rfl ?_
  refine v_if_eqB (b := bel v (nI 4)) 22 13 rfl dX5_left_10 (by decide) (fun c10 => ?_) (fun q => False.elim (by rw [h] at q; cases q))
  refine v_bipush (v := -2) 24 rfl dX5_left_22 (by decide) ?_
  exact v_iret dX5_left_24 rfl rfl rfl

