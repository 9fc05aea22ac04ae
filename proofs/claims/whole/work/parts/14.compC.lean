/-- the checking's loop: from entry t on, of m -/
def crun (tn : Nat → Nat) (fb : Nat → Bool) (ki nu fi se : Nat → Int32) (sm : Nat) : Nat → Nat → Nat → (Nat → Int32) → (Nat → Int32) → Nat × Int32 × (Nat → Int32) × (Nat → Int32)
  | 0, _, A, be, af => (leav fb A 4 0, if leav fb A 4 0 = 0 then -1 else nI sm, be, af)
  | m + 1, t, A, be, af => if (cstA tn fb ki nu fi se t A be af).1 = 0 then crun tn fb ki nu fi se sm m (t + 1) (cstA tn fb ki nu fi se t A be af).2.1 (cstA tn fb ki nu fi se t A be af).2.2.1 (cstA tn fb ki nu fi se t A be af).2.2.2 else ((cstA tn fb ki nu fi se t A be af).1, nu t, (cstA tn fb ki nu fi se t A be af).2.2.1, (cstA tn fb ki nu fi se t A be af).2.2.2)
theorem sim_lt (tn : Nat → Nat) (fb : Nat → Bool) (d v x A : Nat) : (sim tn fb d v x A).1 < 9 := by unfold sim; split <;> (try split) <;> (try split) <;> (try split) <;> (try split) <;> simp
theorem cstA_lt (tn : Nat → Nat) (fb : Nat → Bool) (ki nu fi se : Nat → Int32) (t A : Nat) (be af : Nat → Int32) : (cstA tn fb ki nu fi se t A be af).1 < 9 := by
  unfold cstA cst
  have := sim_lt tn fb (tN (ki t)) (tN (fi t)) (tN (se t)) A
  split
  · simp
  split
  · dsimp only; split <;> omega
  split
  · dsimp only; split <;> omega
  split
  · simp
  exact this
theorem leav_v (fb : Nat → Bool) (A : Nat) : ∀ m v, leav fb A m v = 0 ∨ leav fb A m v = 7 := by
  intro m
  induction m with
  | zero => intro v; exact Or.inl rfl
  | succ m ih => intro v; unfold leav; split; exact Or.inr rfl; exact ih _
theorem neg_nle {f : Nat} (h : f < 9) (h0 : f ≠ 0) : ¬ (0 : Int32) ≤ -nI f := Int32.not_le.mpr (neg_lt f h h0)

set_option maxRecDepth 100000 in
set_option maxHeartbeats 4000000 in
theorem c_checkProgram {D : va_G} {cI cZ cJ : ClassId} {l : Launch} {ad : Nat → Nat} {tg : Nat → Int32} {fn : Nat → Int32} {ki : Nat → Int32} {nu : Nat → Int32} {fi : Nat → Int32} {se : Nat → Int32} {ju : Nat → Int32} {op : Nat → Int32} {en : Nat} {sm : Nat} {ob : Nat} {be : Nat → Int32} {af : Nat → Int32} {pl : Int32} {rf : Int32} {rp : Int32} {rs : Nat} {ra : Nat} {rb : Int32} {rl : Nat} (tn : Nat → Nat) (fb : Nat → Bool) (J : Nat → Nat → (Nat → Int32) → (Nat → Int32) → Prop) (htg : ∀ i, i < 96 → tg i = oI (tn i) ∧ tn i ≤ 5) (hfn : ∀ o, o < 24 → fn o = bI (fb o)) (hen : en ≤ 120) (hJ : ∀ t A be af, t < en → J t A be af → Saf ki nu fi se t A be af ∧ ((cstA tn fb ki nu fi se t A be af).1 = 0 → J (t + 1) (cstA tn fb ki nu fi se t A be af).2.1 (cstA tn fb ki nu fi se t A be af).2.2.1 (cstA tn fb ki nu fi se t A be af).2.2.2)) (hJe : ∀ t A be af, J t A be af → A < 2 ^ 20 ∧ ∀ v, v < 4 → hb A v ≤ 24) (hob : ob = 0) (hJ0 : J 0 0 (fillF be 40 (-1)) af) : KM D (tyL cI cZ cJ) l yX0_checkProgram wsX0_checkProgram 4 93 [.ref (ad 11)] (wC ad cI cZ tg fn ki nu fi se ju op en sm ob be af pl rf rp rs ra rb rl) (some (.int (nI (crun tn fb ki nu fi se sm en 0 0 (fillF be 40 (-1)) af).1))) (wC ad cI cZ tg fn ki nu fi se ju op en sm ob ((crun tn fb ki nu fi se sm en 0 0 (fillF be 40 (-1)) af).2.2.1) ((crun tn fb ki nu fi se sm en 0 0 (fillF be 40 (-1)) af).2.2.2) ((crun tn fb ki nu fi se sm en 0 0 (fillF be 40 (-1)) af).2.1) rf rp rs ra rb rl) := by
  refine KM.of (cc := cX0_checkProgram) (nL := 4) (ret := (some .int)) (by decide +kernel) rfl (Nat.le_of_ble_eq_true rfl) ?_
  have i0 : ∀ w ∈ u_ws RX0 TX0 5, w ∈ wsX0_checkProgram := by decide +kernel
  have i1 : ∀ w ∈ u_ws RX1 TX1 9, w ∈ wsX0_checkProgram := by decide +kernel
  have hop : decide (0 < ob) = false := by simp [hob]
  have loop : ∀ (R : Nat × Int32 × (Nat → Int32) × (Nat → Int32)) (m t A : Nat) (be1 af1 : Nat → Int32), t + m = en → J t A be1 af1 → crun tn fb ki nu fi se sm m t A be1 af1 = R → V (xM D (tyL cI cZ cJ) l 4 93 (wC ad cI cZ tg fn ki nu fi se ju op en sm ob be af pl rf rp rs ra rb rl) (some (.int (nI R.1))) (wC ad cI cZ tg fn ki nu fi se ju op en sm ob R.2.2.1 R.2.2.2 R.2.1 rf rp rs ra rb rl)) (cX0_checkProgram, wsX0_checkProgram, yX0_checkProgram.cls, 4, (some .int), yX0_checkProgram.name) 0 0 (wC ad cI cZ tg fn ki nu fi se ju op en sm ob be1 af1 (nI sm) rf rp rs ra rb rl) 36 [(2, .int (nI t)), (1, .int (nI A)), (0, .ref (ad 11))] [] := by
    intro R m
    induction m with
    | zero =>
      intro t A be1 af1 hm hJt hres
      obtain ⟨hEA, hEo⟩ := hJe t A be1 af1 hJt
      refine v_iload_n 37 rfl dX0_checkProgram_36 rfl rfl ?_
      refine v_aload_n 38 rfl dX0_checkProgram_37 rfl rfl ?_
      refine v_get (ci := 0) (C := RX0) (T := TX0) (N := 5) (v := .ref (ad 4)) 41 rfl 11 0 dX0_checkProgram_38 rfl (Nat.le_of_ble_eq_true rfl) i0 (by decide +kernel) rfl rfl ?_
      refine v_getN (ci := 1) (C := RX1) (T := TX1) (N := 9) (v := .int (nI en)) 44 rfl 4 6 dX0_checkProgram_41 rfl (Nat.le_of_ble_eq_true rfl) i1 (by decide +kernel) rfl rfl ?_
      refine v_icmp_geN (a := t) (b := en) 82 47 rfl dX0_checkProgram_44 (by decide) (by omega) (by omega) (fun c44 => ?_) (fun q => False.elim (by omega))
      refine v_aload_n 83 rfl dX0_checkProgram_82 rfl rfl ?_
      refine v_get (ci := 0) (C := RX0) (T := TX0) (N := 5) (v := .ref (ad 1)) 86 rfl 11 1 dX0_checkProgram_83 rfl (Nat.le_of_ble_eq_true rfl) i0 (by decide +kernel) rfl rfl ?_
      refine v_iload_n 87 rfl dX0_checkProgram_86 rfl rfl ?_
      refine v_callF (n := 1) (q0 := 1) (ci := 2) 90 rfl (c_faultOfLeaving fb A hEA hfn hEo) gX0_checkProgram_X2_faultOfLeaving rfl (by decide +kernel) rfl ⟨(Nat.le_of_ble_eq_true rfl), (Nat.le_of_ble_eq_true rfl)⟩ rfl (Nat.le_of_ble_eq_true rfl) rfl rfl rfl dX0_checkProgram_87 ⟨Nat.zero_le _, Nat.zero_le _⟩ rfl ?_
      refine v_st (st' := [.int (nI (leav fb A 4 0))]) rfl ?_
      refine v_istore_n (lv' := [(2, .int (nI (leav fb A 4 0))), (1, .int (nI A)), (0, .ref (ad 11))]) 91 rfl dX0_checkProgram_90 rfl (Nat.le_of_ble_eq_true rfl) rfl ?_
      refine v_iload_n 92 rfl dX0_checkProgram_91 rfl rfl ?_
      refine v_if_neN (a := leav fb A 4 0) 100 95 rfl dX0_checkProgram_92 (by decide) (by have := leav_v fb A 4 0; omega) (fun c92 => ?_) (fun c92 => ?_)
      · refine v_iload_n 101 rfl dX0_checkProgram_100 rfl rfl ?_
        exact v_iret dX0_checkProgram_101 rfl (by rw [← hres]; rfl) (by rw [← hres]; simp [crun, *]; try omega)
      · refine v_aload_n 96 rfl dX0_checkProgram_95 rfl rfl ?_
        refine v_iconst (v := -1) 97 rfl dX0_checkProgram_96 (by decide) ?_
        refine v_put (ci := 0) (C := RX0) (T := TX0) (ty0 := tyX0) (N := 5) (ty := .int) (w' := wC ad cI cZ tg fn ki nu fi se ju op en sm ob be1 af1 (-1) rf rp rs ra rb rl) 100 rfl 11 4 dX0_checkProgram_97 rfl (Nat.le_of_ble_eq_true rfl) i0 tyX0_ok nmX0 (by decide +kernel) rfl (by decide +kernel) rfl rfl rfl (Nat.le_of_ble_eq_true rfl) rfl ?_
        refine v_iload_n 101 rfl dX0_checkProgram_100 rfl rfl ?_
        exact v_iret dX0_checkProgram_101 rfl (by rw [← hres]; rfl) (by rw [← hres]; simp [crun, *]; try omega)
    | succ m ih =>
      intro t A be1 af1 hm hJt hres
      refine v_iload_n 37 rfl dX0_checkProgram_36 rfl rfl ?_
      refine v_aload_n 38 rfl dX0_checkProgram_37 rfl rfl ?_
      refine v_get (ci := 0) (C := RX0) (T := TX0) (N := 5) (v := .ref (ad 4)) 41 rfl 11 0 dX0_checkProgram_38 rfl (Nat.le_of_ble_eq_true rfl) i0 (by decide +kernel) rfl rfl ?_
      refine v_getN (ci := 1) (C := RX1) (T := TX1) (N := 9) (v := .int (nI en)) 44 rfl 4 6 dX0_checkProgram_41 rfl (Nat.le_of_ble_eq_true rfl) i1 (by decide +kernel) rfl rfl ?_
      refine v_icmp_geN (a := t) (b := en) 82 47 rfl dX0_checkProgram_44 (by decide) (by omega) (by omega) (fun q => False.elim (by omega)) (fun c44 => ?_)
      refine v_aload_n 48 rfl dX0_checkProgram_47 rfl rfl ?_
      refine v_iload_n 49 rfl dX0_checkProgram_48 rfl rfl ?_
      refine v_iload_n 50 rfl dX0_checkProgram_49 rfl rfl ?_
      refine v_callF (n := 2) (q0 := 11) (ci := 0) 53 rfl (c_afterEntry tn fb t A (by omega) hen (hJ t A be1 af1 (by omega) hJt).1 htg hfn) gX0_checkProgram_X0_afterEntry rfl (by decide +kernel) rfl ⟨(Nat.le_of_ble_eq_true rfl), (Nat.le_of_ble_eq_true rfl)⟩ rfl (Nat.le_of_ble_eq_true rfl) rfl rfl rfl dX0_checkProgram_50 ⟨Nat.zero_le _, Nat.zero_le _⟩ rfl ?_
      refine v_st (st' := [.int (fI (cstA tn fb ki nu fi se t A be1 af1).1 (cstA tn fb ki nu fi se t A be1 af1).2.1)]) rfl ?_
      by_cases h0 : (cstA tn fb ki nu fi se t A be1 af1).1 = 0
      · refine v_top (v' := nI (cstA tn fb ki nu fi se t A be1 af1).2.1) (by rw [h0]; rfl) ?_
        refine v_istore_n (lv' := [(3, .int (nI ((cstA tn fb ki nu fi se t A be1 af1).2.1))), (2, .int (nI t)), (1, .int (nI A)), (0, .ref (ad 11))]) 54 rfl dX0_checkProgram_53 rfl (Nat.le_of_ble_eq_true rfl) rfl ?_
        refine v_iload_n 55 rfl dX0_checkProgram_54 rfl rfl ?_
        refine v_if_geN (a := (cstA tn fb ki nu fi se t A be1 af1).2.1) 74 58 rfl dX0_checkProgram_55 (by decide) (by have := (hJe _ _ _ _ ((hJ t A be1 af1 (by omega) hJt).2 h0)).1; omega) ?_
        refine v_iload_n 75 rfl dX0_checkProgram_74 rfl rfl ?_
        refine v_istore_n (lv' := [(1, .int (nI ((cstA tn fb ki nu fi se t A be1 af1).2.1))), (3, .int (nI ((cstA tn fb ki nu fi se t A be1 af1).2.1))), (2, .int (nI t)), (0, .ref (ad 11))]) 76 rfl dX0_checkProgram_75 rfl (Nat.le_of_ble_eq_true rfl) rfl ?_
        refine v_iinc (v := nI (t + 1)) (lv' := [(2, .int (nI (t + 1))), (1, .int (nI ((cstA tn fb ki nu fi se t A be1 af1).2.1))), (3, .int (nI ((cstA tn fb ki nu fi se t A be1 af1).2.1))), (0, .ref (ad 11))]) 79 rfl dX0_checkProgram_76 2 rfl (nI_add _ _) (Nat.le_of_ble_eq_true rfl) rfl ?_
        refine v_goto 36 dX0_checkProgram_79 (by decide) ?_
        refine v_lv [0, 1, 3] rfl ?_
        exact ih _ _ _ _ (by omega) ((hJ t A be1 af1 (by omega) hJt).2 h0) (by rw [← hres]; simp [crun, h0])
      · refine v_top (v' := -nI (cstA tn fb ki nu fi se t A be1 af1).1) (fI_s h0 _) ?_
        refine v_istore_n (lv' := [(3, .int (-nI (cstA tn fb ki nu fi se t A be1 af1).1)), (2, .int (nI t)), (1, .int (nI A)), (0, .ref (ad 11))]) 54 rfl dX0_checkProgram_53 rfl (Nat.le_of_ble_eq_true rfl) rfl ?_
        refine v_iload_n 55 rfl dX0_checkProgram_54 rfl rfl ?_
        refine v_if_ge 74 58 rfl dX0_checkProgram_55 (by decide) (fun q => absurd q (neg_nle (cstA_lt _ _ _ _ _ _ _ _ _ _) h0)) (fun c55 => ?_)
        refine v_aload_n 59 rfl dX0_checkProgram_58 rfl rfl ?_
        refine v_aload_n 60 rfl dX0_checkProgram_59 rfl rfl ?_
        refine v_get (ci := 0) (C := RX0) (T := TX0) (N := 5) (v := .ref (ad 4)) 63 rfl 11 0 dX0_checkProgram_60 rfl (Nat.le_of_ble_eq_true rfl) i0 (by decide +kernel) rfl rfl ?_
        refine v_getN (ci := 1) (C := RX1) (T := TX1) (N := 9) (v := .ref (ad 6)) 66 rfl 4 1 dX0_checkProgram_63 rfl (Nat.le_of_ble_eq_true rfl) i1 (by decide +kernel) rfl rfl ?_
        refine v_iload_n 67 rfl dX0_checkProgram_66 rfl rfl ?_
        refine v_iald (j := t) (v := nu t) 68 rfl 6 0 dX0_checkProgram_67 rfl rfl (by omega) (by decide) rfl ?_
        refine v_put (ci := 0) (C := RX0) (T := TX0) (ty0 := tyX0) (N := 5) (ty := .int) (w' := wC ad cI cZ tg fn ki nu fi se ju op en sm ob ((cstA tn fb ki nu fi se t A be1 af1).2.2.1) ((cstA tn fb ki nu fi se t A be1 af1).2.2.2) (nu t) rf rp rs ra rb rl) 71 rfl 11 4 dX0_checkProgram_68 rfl (Nat.le_of_ble_eq_true rfl) i0 tyX0_ok nmX0 (by decide +kernel) rfl (by decide +kernel) rfl rfl rfl (Nat.le_of_ble_eq_true rfl) rfl ?_
        refine v_iload_n 72 rfl dX0_checkProgram_71 rfl rfl ?_
        refine v_ineg 73 rfl dX0_checkProgram_72 ?_
        refine v_top (v' := nI ((cstA tn fb ki nu fi se t A be1 af1).1)) (neg_neg9 _ (cstA_lt _ _ _ _ _ _ _ _ _ _)) ?_
        exact v_iret dX0_checkProgram_73 rfl (by rw [← hres]; simp [crun, h0]) (by rw [← hres]; simp [crun, h0])
  refine v_aload_n 1 rfl dX0_checkProgram_0 rfl rfl ?_
  refine v_get (ci := 0) (C := RX0) (T := TX0) (N := 5) (v := .ref (ad 12)) 4 rfl 11 2 dX0_checkProgram_1 rfl (Nat.le_of_ble_eq_true rfl) i0 (by decide +kernel) rfl rfl ?_
  refine v_iconst (v := -1) 5 rfl dX0_checkProgram_4 (by decide) ?_
  refine v_callSF (n := 2) 8 rfl (c_fill (wC ad cI cZ tg fn ki nu fi se ju op en sm ob be af pl rf rp rs ra rb rl) 12 (ad 12) 40 be (-1) rfl (by decide)) gX0_checkProgram_J7_fill_53178 rfl (by decide +kernel) rfl ⟨(Nat.le_of_ble_eq_true rfl), (Nat.le_of_ble_eq_true rfl)⟩ rfl (Nat.le_of_ble_eq_true rfl) dX0_checkProgram_5 ⟨Nat.zero_le _, Nat.zero_le _⟩ rfl ?_
  refine v_w (w' := wC ad cI cZ tg fn ki nu fi se ju op en sm ob (fillF be 40 (-1)) af pl rf rp rs ra rb rl) rfl ?_
  refine v_st (st' := []) rfl ?_
  refine v_aload_n 9 rfl dX0_checkProgram_8 rfl rfl ?_
  refine v_aload_n 10 rfl dX0_checkProgram_9 rfl rfl ?_
  refine v_get (ci := 0) (C := RX0) (T := TX0) (N := 5) (v := .ref (ad 4)) 13 rfl 11 0 dX0_checkProgram_10 rfl (Nat.le_of_ble_eq_true rfl) i0 (by decide +kernel) rfl rfl ?_
  refine v_getN (ci := 1) (C := RX1) (T := TX1) (N := 9) (v := .int (nI sm)) 16 rfl 4 7 dX0_checkProgram_13 rfl (Nat.le_of_ble_eq_true rfl) i1 (by decide +kernel) rfl rfl ?_
  refine v_put (ci := 0) (C := RX0) (T := TX0) (ty0 := tyX0) (N := 5) (ty := .int) (w' := wC ad cI cZ tg fn ki nu fi se ju op en sm ob (fillF be 40 (-1)) af (nI sm) rf rp rs ra rb rl) 19 rfl 11 4 dX0_checkProgram_16 rfl (Nat.le_of_ble_eq_true rfl) i0 tyX0_ok nmX0 (by decide +kernel) rfl (by decide +kernel) rfl rfl rfl (Nat.le_of_ble_eq_true rfl) rfl ?_
  refine v_aload_n 20 rfl dX0_checkProgram_19 rfl rfl ?_
  refine v_get (ci := 0) (C := RX0) (T := TX0) (N := 5) (v := .ref (ad 4)) 23 rfl 11 0 dX0_checkProgram_20 rfl (Nat.le_of_ble_eq_true rfl) i0 (by decide +kernel) rfl rfl ?_
  refine v_callF (n := 0) (q0 := 4) (ci := 1) 26 rfl (c_hasOpenBlocks (by omega)) gX0_checkProgram_X1_hasOpenBlocks rfl (by decide +kernel) rfl ⟨(Nat.le_of_ble_eq_true rfl), (Nat.le_of_ble_eq_true rfl)⟩ rfl (Nat.le_of_ble_eq_true rfl) rfl rfl rfl dX0_checkProgram_23 ⟨Nat.zero_le _, Nat.zero_le _⟩ rfl ?_
  refine v_st (st' := [.int (bI (decide (0 < ob)))]) rfl ?_
  refine v_if_eqB (b := decide (0 < ob)) 32 29 rfl dX0_checkProgram_26 (by decide) (fun c26 => ?_) (fun q => False.elim (by rw [hop] at q; cases q))
  refine v_iconst (v := nI 0) 33 rfl dX0_checkProgram_32 (by decide) ?_
  refine v_istore_n (lv' := [(1, .int (nI 0)), (0, .ref (ad 11))]) 34 rfl dX0_checkProgram_33 rfl (Nat.le_of_ble_eq_true rfl) rfl ?_
  refine v_iconst (v := nI 0) 35 rfl dX0_checkProgram_34 (by decide) ?_
  refine v_istore_n (lv' := [(2, .int (nI 0)), (1, .int (nI 0)), (0, .ref (ad 11))]) 36 rfl dX0_checkProgram_35 rfl (Nat.le_of_ble_eq_true rfl) rfl ?_
  refine v_lv [0, 1, 2] rfl ?_
  exact loop _ en 0 0 _ _ (by omega) hJ0 rfl

set_option maxRecDepth 100000 in
set_option maxHeartbeats 4000000 in
theorem c_checkProgram8 {D : va_G} {cI cZ cJ : ClassId} {l : Launch} {ad : Nat → Nat} {tg : Nat → Int32} {fn : Nat → Int32} {ki : Nat → Int32} {nu : Nat → Int32} {fi : Nat → Int32} {se : Nat → Int32} {ju : Nat → Int32} {op : Nat → Int32} {en : Nat} {sm : Nat} {ob : Nat} {be : Nat → Int32} {af : Nat → Int32} {pl : Int32} {rf : Int32} {rp : Int32} {rs : Nat} {ra : Nat} {rb : Int32} {rl : Nat} (hob : 0 < ob) (ho : ob ≤ 6) : KM D (tyL cI cZ cJ) l yX0_checkProgram wsX0_checkProgram 1 23 [.ref (ad 11)] (wC ad cI cZ tg fn ki nu fi se ju op en sm ob be af pl rf rp rs ra rb rl) (some (.int (nI 8))) (wC ad cI cZ tg fn ki nu fi se ju op en sm ob (fillF be 40 (-1)) af (nI sm) rf rp rs ra rb rl) := by
  refine KM.of (cc := cX0_checkProgram) (nL := 4) (ret := (some .int)) (by decide +kernel) rfl (Nat.le_of_ble_eq_true rfl) ?_
  have i0 : ∀ w ∈ u_ws RX0 TX0 5, w ∈ wsX0_checkProgram := by decide +kernel
  have i1 : ∀ w ∈ u_ws RX1 TX1 9, w ∈ wsX0_checkProgram := by decide +kernel
  refine v_aload_n 1 rfl dX0_checkProgram_0 rfl rfl ?_
  refine v_get (ci := 0) (C := RX0) (T := TX0) (N := 5) (v := .ref (ad 12)) 4 rfl 11 2 dX0_checkProgram_1 rfl (Nat.le_of_ble_eq_true rfl) i0 (by decide +kernel) rfl rfl ?_
  refine v_iconst (v := -1) 5 rfl dX0_checkProgram_4 (by decide) ?_
  refine v_callSF (n := 2) 8 rfl (c_fill (wC ad cI cZ tg fn ki nu fi se ju op en sm ob be af pl rf rp rs ra rb rl) 12 (ad 12) 40 be (-1) rfl (by decide)) gX0_checkProgram_J7_fill_53178 rfl (by decide +kernel) rfl ⟨(Nat.le_of_ble_eq_true rfl), (Nat.le_of_ble_eq_true rfl)⟩ rfl (Nat.le_of_ble_eq_true rfl) dX0_checkProgram_5 ⟨Nat.zero_le _, Nat.zero_le _⟩ rfl ?_
  refine v_w (w' := wC ad cI cZ tg fn ki nu fi se ju op en sm ob (fillF be 40 (-1)) af pl rf rp rs ra rb rl) rfl ?_
  refine v_st (st' := []) rfl ?_
  refine v_aload_n 9 rfl dX0_checkProgram_8 rfl rfl ?_
  refine v_aload_n 10 rfl dX0_checkProgram_9 rfl rfl ?_
  refine v_get (ci := 0) (C := RX0) (T := TX0) (N := 5) (v := .ref (ad 4)) 13 rfl 11 0 dX0_checkProgram_10 rfl (Nat.le_of_ble_eq_true rfl) i0 (by decide +kernel) rfl rfl ?_
  refine v_getN (ci := 1) (C := RX1) (T := TX1) (N := 9) (v := .int (nI sm)) 16 rfl 4 7 dX0_checkProgram_13 rfl (Nat.le_of_ble_eq_true rfl) i1 (by decide +kernel) rfl rfl ?_
  refine v_put (ci := 0) (C := RX0) (T := TX0) (ty0 := tyX0) (N := 5) (ty := .int) (w' := wC ad cI cZ tg fn ki nu fi se ju op en sm ob (fillF be 40 (-1)) af (nI sm) rf rp rs ra rb rl) 19 rfl 11 4 dX0_checkProgram_16 rfl (Nat.le_of_ble_eq_true rfl) i0 tyX0_ok nmX0 (by decide +kernel) rfl (by decide +kernel) rfl rfl rfl (Nat.le_of_ble_eq_true rfl) rfl ?_
  refine v_aload_n 20 rfl dX0_checkProgram_19 rfl rfl ?_
  refine v_get (ci := 0) (C := RX0) (T := TX0) (N := 5) (v := .ref (ad 4)) 23 rfl 11 0 dX0_checkProgram_20 rfl (Nat.le_of_ble_eq_true rfl) i0 (by decide +kernel) rfl rfl ?_
  refine v_callF (n := 0) (q0 := 4) (ci := 1) 26 rfl (c_hasOpenBlocks (by omega)) gX0_checkProgram_X1_hasOpenBlocks rfl (by decide +kernel) rfl ⟨(Nat.le_of_ble_eq_true rfl), (Nat.le_of_ble_eq_true rfl)⟩ rfl (Nat.le_of_ble_eq_true rfl) rfl rfl rfl dX0_checkProgram_23 ⟨Nat.zero_le _, Nat.zero_le _⟩ rfl ?_
  refine v_st (st' := [.int (bI (decide (0 < ob)))]) rfl ?_
  refine v_if_eqB (b := decide (0 < ob)) 32 29 rfl dX0_checkProgram_26 (by decide) (fun q => False.elim (by rw [decide_eq_true hob] at q; cases q)) (fun c26 => ?_)
  refine v_bipush (v := nI 8) 31 rfl dX0_checkProgram_29 (by decide) ?_
  exact v_iret dX0_checkProgram_31 rfl rfl rfl

def sh1 (b : Int32) : Int32 := (b.toUInt32 >>> ((nI 1).toUInt32 &&& Int32.toUInt32 31)).toInt32
/-- the next bit; what is left of the bits -/
def rbit (rb : Int32) (rl : Nat) : Bool × Int32 × Nat := if rl = 0 then (false, rb, rl) else (decide (rb &&& nI 1 = nI 1), sh1 rb, rl - 1)
/-- an entry of a run (kind d): fault, where it goes on, what is held, steps, bits, how many -/
def rst (tn : Nat → Nat) (fb : Nat → Bool) (d v x j t A rs : Nat) (rb : Int32) (rl : Nat) : Nat × Nat × Nat × Nat × Int32 × Nat :=
  if d = 4 ∨ d = 7 then (0, if (rbit rb rl).1 = true then t + 1 else j, A, rs + 1, (rbit rb rl).2.1, (rbit rb rl).2.2)
  else if d = 5 ∨ d = 8 then (0, j, A, rs, rb, rl)
  else if d = 6 then (0, t + 1, A, rs, rb, rl)
  else if (sim tn fb d v x A).1 = 0 then (0, t + 1, (sim tn fb d v x A).2, rs + 1, rb, rl)
  else ((sim tn fb d v x A).1, t + 1, A, rs, rb, rl)
def rstA (tn : Nat → Nat) (fb : Nat → Bool) (ki fi se ju : Nat → Int32) (t A rs : Nat) (rb : Int32) (rl : Nat) : Nat × Nat × Nat × Nat × Int32 × Nat := rst tn fb (tN (ki t)) (tN (fi t)) (tN (se t)) (tN (ju t)) t A rs rb rl

set_option maxRecDepth 100000 in
set_option maxHeartbeats 4000000 in
theorem c_takeBit0 {D : va_G} {cI cZ cJ : ClassId} {l : Launch} {ad : Nat → Nat} {tg : Nat → Int32} {fn : Nat → Int32} {ki : Nat → Int32} {nu : Nat → Int32} {fi : Nat → Int32} {se : Nat → Int32} {ju : Nat → Int32} {op : Nat → Int32} {en : Nat} {sm : Nat} {ob : Nat} {be : Nat → Int32} {af : Nat → Int32} {pl : Int32} {rf : Int32} {rp : Int32} {rs : Nat} {ra : Nat} {rb : Int32} {rl : Nat} (h0 : rl = 0) : KM D (tyL cI cZ cJ) l yX3_takeBit wsX3_takeBit 0 0 [.ref (ad 14)] (wC ad cI cZ tg fn ki nu fi se ju op en sm ob be af pl rf rp rs ra rb rl) (some (.int (bI (rbit rb rl).1))) (wC ad cI cZ tg fn ki nu fi se ju op en sm ob be af pl rf rp (rs + 1) ra ((rbit rb rl).2.1) ((rbit rb rl).2.2)) := by
  refine KM.of (cc := cX3_takeBit) (nL := 2) (ret := (some .boolean)) (by decide +kernel) rfl (Nat.le_of_ble_eq_true rfl) ?_
  have i3 : ∀ w ∈ u_ws RX3 TX3 8, w ∈ wsX3_takeBit := by decide +kernel
  refine v_aload_n 1 rfl dX3_takeBit_0 rfl rfl ?_
  refine v_dup 2 rfl dX3_takeBit_1 rfl ?_
  refine v_get (ci := 3) (C := RX3) (T := TX3) (N := 8) (v := .int (nI rs)) 5 rfl 14 4 dX3_takeBit_2 rfl (Nat.le_of_ble_eq_true rfl) i3 (by decide +kernel) rfl rfl ?_
  refine v_iconst (v := nI 1) 6 rfl dX3_takeBit_5 (by decide) ?_
  refine v_iaddN (a := rs) (b := 1) 7 rfl dX3_takeBit_6 ?_
  refine v_put (ci := 3) (C := RX3) (T := TX3) (ty0 := tyX3) (N := 8) (ty := .int) (w' := wC ad cI cZ tg fn ki nu fi se ju op en sm ob be af pl rf rp (rs + 1) ra rb rl) 10 rfl 14 4 dX3_takeBit_7 rfl (Nat.le_of_ble_eq_true rfl) i3 tyX3_ok nmX3 (by decide +kernel) rfl (by decide +kernel) rfl rfl rfl (Nat.le_of_ble_eq_true rfl) rfl ?_
  refine v_aload_n 11 rfl dX3_takeBit_10 rfl rfl ?_
  refine v_get (ci := 3) (C := RX3) (T := TX3) (N := 8) (v := .int (nI rl)) 14 rfl 14 7 dX3_takeBit_11 rfl (Nat.le_of_ble_eq_true rfl) i3 (by decide +kernel) rfl rfl ?_
  refine v_if_gtN (a := rl) 19 17 rfl dX3_takeBit_14 (by decide) (by omega) (fun q => False.elim (by omega)) (fun c14 => ?_)
  refine v_iconst (v := nI 0) 18 rfl dX3_takeBit_17 (by decide) ?_
  refine v_top (v' := bI false) (by decide) ?_
  exact v_zret dX3_takeBit_18 rfl (by simp [rbit, h0]) (by simp [rbit, h0])

set_option maxRecDepth 100000 in
set_option maxHeartbeats 4000000 in
theorem c_takeBit1 {D : va_G} {cI cZ cJ : ClassId} {l : Launch} {ad : Nat → Nat} {tg : Nat → Int32} {fn : Nat → Int32} {ki : Nat → Int32} {nu : Nat → Int32} {fi : Nat → Int32} {se : Nat → Int32} {ju : Nat → Int32} {op : Nat → Int32} {en : Nat} {sm : Nat} {ob : Nat} {be : Nat → Int32} {af : Nat → Int32} {pl : Int32} {rf : Int32} {rp : Int32} {rs : Nat} {ra : Nat} {rb : Int32} {rl : Nat} (h0 : 0 < rl) (hl : rl ≤ 32) : KM D (tyL cI cZ cJ) l yX3_takeBit wsX3_takeBit 0 0 [.ref (ad 14)] (wC ad cI cZ tg fn ki nu fi se ju op en sm ob be af pl rf rp rs ra rb rl) (some (.int (bI (rbit rb rl).1))) (wC ad cI cZ tg fn ki nu fi se ju op en sm ob be af pl rf rp (rs + 1) ra ((rbit rb rl).2.1) ((rbit rb rl).2.2)) := by
  refine KM.of (cc := cX3_takeBit) (nL := 2) (ret := (some .boolean)) (by decide +kernel) rfl (Nat.le_of_ble_eq_true rfl) ?_
  have i3 : ∀ w ∈ u_ws RX3 TX3 8, w ∈ wsX3_takeBit := by decide +kernel
  refine v_aload_n 1 rfl dX3_takeBit_0 rfl rfl ?_
  refine v_dup 2 rfl dX3_takeBit_1 rfl ?_
  refine v_get (ci := 3) (C := RX3) (T := TX3) (N := 8) (v := .int (nI rs)) 5 rfl 14 4 dX3_takeBit_2 rfl (Nat.le_of_ble_eq_true rfl) i3 (by decide +kernel) rfl rfl ?_
  refine v_iconst (v := nI 1) 6 rfl dX3_takeBit_5 (by decide) ?_
  refine v_iaddN (a := rs) (b := 1) 7 rfl dX3_takeBit_6 ?_
  refine v_put (ci := 3) (C := RX3) (T := TX3) (ty0 := tyX3) (N := 8) (ty := .int) (w' := wC ad cI cZ tg fn ki nu fi se ju op en sm ob be af pl rf rp (rs + 1) ra rb rl) 10 rfl 14 4 dX3_takeBit_7 rfl (Nat.le_of_ble_eq_true rfl) i3 tyX3_ok nmX3 (by decide +kernel) rfl (by decide +kernel) rfl rfl rfl (Nat.le_of_ble_eq_true rfl) rfl ?_
  refine v_aload_n 11 rfl dX3_takeBit_10 rfl rfl ?_
  refine v_get (ci := 3) (C := RX3) (T := TX3) (N := 8) (v := .int (nI rl)) 14 rfl 14 7 dX3_takeBit_11 rfl (Nat.le_of_ble_eq_true rfl) i3 (by decide +kernel) rfl rfl ?_
  refine v_if_gtN (a := rl) 19 17 rfl dX3_takeBit_14 (by decide) (by omega) (fun c14 => ?_) (fun q => False.elim (by omega))
  refine v_aload_n 20 rfl dX3_takeBit_19 rfl rfl ?_
  refine v_get (ci := 3) (C := RX3) (T := TX3) (N := 8) (v := .int rb) 23 rfl 14 6 dX3_takeBit_20 rfl (Nat.le_of_ble_eq_true rfl) i3 (by decide +kernel) rfl rfl ?_
  refine v_iconst (v := nI 1) 24 rfl dX3_takeBit_23 (by decide) ?_
  refine v_iand 25 rfl dX3_takeBit_24 ?_
  refine v_iconst (v := nI 1) 26 rfl dX3_takeBit_25 (by decide) ?_
  refine v_icmp_ne 33 29 rfl dX3_takeBit_26 (by decide) (fun c26 => ?_) (fun c26 => ?_)
  · refine v_iconst (v := bI false) 34 rfl dX3_takeBit_33 (by decide) ?_
    refine v_istore_n (lv' := [(1, .int (bI false)), (0, .ref (ad 14))]) 35 rfl dX3_takeBit_34 rfl (Nat.le_of_ble_eq_true rfl) rfl ?_
    refine v_aload_n 36 rfl dX3_takeBit_35 rfl rfl ?_
    refine v_dup 37 rfl dX3_takeBit_36 rfl ?_
    refine v_get (ci := 3) (C := RX3) (T := TX3) (N := 8) (v := .int rb) 40 rfl 14 6 dX3_takeBit_37 rfl (Nat.le_of_ble_eq_true rfl) i3 (by decide +kernel) rfl rfl ?_
    refine v_iconst (v := nI 1) 41 rfl dX3_takeBit_40 (by decide) ?_
    refine v_iushr (v := sh1 rb) 42 rfl dX3_takeBit_41 rfl ?_
    refine v_put (ci := 3) (C := RX3) (T := TX3) (ty0 := tyX3) (N := 8) (ty := .int) (w' := wC ad cI cZ tg fn ki nu fi se ju op en sm ob be af pl rf rp (rs + 1) ra (sh1 rb) rl) 45 rfl 14 6 dX3_takeBit_42 rfl (Nat.le_of_ble_eq_true rfl) i3 tyX3_ok nmX3 (by decide +kernel) rfl (by decide +kernel) rfl rfl rfl (Nat.le_of_ble_eq_true rfl) rfl ?_
    refine v_aload_n 46 rfl dX3_takeBit_45 rfl rfl ?_
    refine v_dup 47 rfl dX3_takeBit_46 rfl ?_
    refine v_get (ci := 3) (C := RX3) (T := TX3) (N := 8) (v := .int (nI rl)) 50 rfl 14 7 dX3_takeBit_47 rfl (Nat.le_of_ble_eq_true rfl) i3 (by decide +kernel) rfl rfl ?_
    refine v_iconst (v := nI 1) 51 rfl dX3_takeBit_50 (by decide) ?_
    refine v_isubN (a := rl) (b := 1) 52 rfl dX3_takeBit_51 (by omega) ?_
    refine v_put (ci := 3) (C := RX3) (T := TX3) (ty0 := tyX3) (N := 8) (ty := .int) (w' := wC ad cI cZ tg fn ki nu fi se ju op en sm ob be af pl rf rp (rs + 1) ra (sh1 rb) (rl - 1)) 55 rfl 14 7 dX3_takeBit_52 rfl (Nat.le_of_ble_eq_true rfl) i3 tyX3_ok nmX3 (by decide +kernel) rfl (by decide +kernel) rfl rfl rfl (Nat.le_of_ble_eq_true rfl) rfl ?_
    refine v_iload_n 56 rfl dX3_takeBit_55 rfl rfl ?_
    exact v_zret dX3_takeBit_56 rfl (by simp [rbit, show rl ≠ 0 by omega, *]) (by simp [rbit, show rl ≠ 0 by omega])
  · refine v_iconst (v := bI true) 30 rfl dX3_takeBit_29 (by decide) ?_
    refine v_goto 34 dX3_takeBit_30 (by decide) ?_
    refine v_istore_n (lv' := [(1, .int (bI true)), (0, .ref (ad 14))]) 35 rfl dX3_takeBit_34 rfl (Nat.le_of_ble_eq_true rfl) rfl ?_
    refine v_aload_n 36 rfl dX3_takeBit_35 rfl rfl ?_
    refine v_dup 37 rfl dX3_takeBit_36 rfl ?_
    refine v_get (ci := 3) (C := RX3) (T := TX3) (N := 8) (v := .int rb) 40 rfl 14 6 dX3_takeBit_37 rfl (Nat.le_of_ble_eq_true rfl) i3 (by decide +kernel) rfl rfl ?_
    refine v_iconst (v := nI 1) 41 rfl dX3_takeBit_40 (by decide) ?_
    refine v_iushr (v := sh1 rb) 42 rfl dX3_takeBit_41 rfl ?_
    refine v_put (ci := 3) (C := RX3) (T := TX3) (ty0 := tyX3) (N := 8) (ty := .int) (w' := wC ad cI cZ tg fn ki nu fi se ju op en sm ob be af pl rf rp (rs + 1) ra (sh1 rb) rl) 45 rfl 14 6 dX3_takeBit_42 rfl (Nat.le_of_ble_eq_true rfl) i3 tyX3_ok nmX3 (by decide +kernel) rfl (by decide +kernel) rfl rfl rfl (Nat.le_of_ble_eq_true rfl) rfl ?_
    refine v_aload_n 46 rfl dX3_takeBit_45 rfl rfl ?_
    refine v_dup 47 rfl dX3_takeBit_46 rfl ?_
    refine v_get (ci := 3) (C := RX3) (T := TX3) (N := 8) (v := .int (nI rl)) 50 rfl 14 7 dX3_takeBit_47 rfl (Nat.le_of_ble_eq_true rfl) i3 (by decide +kernel) rfl rfl ?_
    refine v_iconst (v := nI 1) 51 rfl dX3_takeBit_50 (by decide) ?_
    refine v_isubN (a := rl) (b := 1) 52 rfl dX3_takeBit_51 (by omega) ?_
    refine v_put (ci := 3) (C := RX3) (T := TX3) (ty0 := tyX3) (N := 8) (ty := .int) (w' := wC ad cI cZ tg fn ki nu fi se ju op en sm ob be af pl rf rp (rs + 1) ra (sh1 rb) (rl - 1)) 55 rfl 14 7 dX3_takeBit_52 rfl (Nat.le_of_ble_eq_true rfl) i3 tyX3_ok nmX3 (by decide +kernel) rfl (by decide +kernel) rfl rfl rfl (Nat.le_of_ble_eq_true rfl) rfl ?_
    refine v_iload_n 56 rfl dX3_takeBit_55 rfl rfl ?_
    exact v_zret dX3_takeBit_56 rfl (by simp [rbit, show rl ≠ 0 by omega, *]) (by simp [rbit, show rl ≠ 0 by omega])

theorem c_takeBit {D : va_G} {cI cZ cJ : ClassId} {l : Launch} {ad : Nat → Nat} {tg : Nat → Int32} {fn : Nat → Int32} {ki : Nat → Int32} {nu : Nat → Int32} {fi : Nat → Int32} {se : Nat → Int32} {ju : Nat → Int32} {op : Nat → Int32} {en : Nat} {sm : Nat} {ob : Nat} {be : Nat → Int32} {af : Nat → Int32} {pl : Int32} {rf : Int32} {rp : Int32} {rs : Nat} {ra : Nat} {rb : Int32} {rl : Nat} (hl : rl ≤ 32) : KM D (tyL cI cZ cJ) l yX3_takeBit wsX3_takeBit 0 0 [.ref (ad 14)] (wC ad cI cZ tg fn ki nu fi se ju op en sm ob be af pl rf rp rs ra rb rl) (some (.int (bI (rbit rb rl).1))) (wC ad cI cZ tg fn ki nu fi se ju op en sm ob be af pl rf rp (rs + 1) ra ((rbit rb rl).2.1) ((rbit rb rl).2.2)) := by
  rcases Nat.eq_zero_or_pos rl with h | h
  · exact c_takeBit0 h
  · exact c_takeBit1 h hl

set_option maxRecDepth 100000 in
set_option maxHeartbeats 4000000 in
theorem c_doSimple0 {D : va_G} {cI cZ cJ : ClassId} {l : Launch} {ad : Nat → Nat} {tg : Nat → Int32} {fn : Nat → Int32} {ki : Nat → Int32} {nu : Nat → Int32} {fi : Nat → Int32} {se : Nat → Int32} {ju : Nat → Int32} {op : Nat → Int32} {en : Nat} {sm : Nat} {ob : Nat} {be : Nat → Int32} {af : Nat → Int32} {pl : Int32} {rf : Int32} {rp : Int32} {rs : Nat} {ra : Nat} {rb : Int32} {rl : Nat} (tn : Nat → Nat) (fb : Nat → Bool) (t d v x : Nat) (hte : t < en) (hen : en ≤ 120) (hk : ki t = nI d) (hd : d < 4) (hv : v < 4) (hx : x < 4) (hx3 : d = 0 → x < 3) (hA : ra < 2 ^ 20) (hob : ∀ v, v < 4 → hb ra v ≤ 24) (hf : fi t = nI v) (hs : se t = nI x) (htg : ∀ i, i < 96 → tg i = oI (tn i) ∧ tn i ≤ 5) (hfn : ∀ o, o < 24 → fn o = bI (fb o)) (h0 : (sim tn fb d v x ra).1 = 0) (hb2 : (sim tn fb d v x ra).2 < 2 ^ 20) : KM D (tyL cI cZ cJ) l yX3_doSimple wsX3_doSimple 3 70 [.ref (ad 14), .int (nI t)] (wC ad cI cZ tg fn ki nu fi se ju op en sm ob be af pl rf rp rs ra rb rl) none (wC ad cI cZ tg fn ki nu fi se ju op en sm ob be af pl rf rp (rs + 1) ((sim tn fb d v x ra).2) rb rl) := by
  refine KM.of (cc := cX3_doSimple) (nL := 3) (ret := none) (by decide +kernel) rfl (Nat.le_of_ble_eq_true rfl) ?_
  have i3 : ∀ w ∈ u_ws RX3 TX3 8, w ∈ wsX3_doSimple := by decide +kernel
  refine v_aload_n 1 rfl dX3_doSimple_0 rfl rfl ?_
  refine v_get (ci := 3) (C := RX3) (T := TX3) (N := 8) (v := .ref (ad 4)) 4 rfl 14 0 dX3_doSimple_1 rfl (Nat.le_of_ble_eq_true rfl) i3 (by decide +kernel) rfl rfl ?_
  refine v_iload_n 5 rfl dX3_doSimple_4 rfl rfl ?_
  refine v_aload_n 6 rfl dX3_doSimple_5 rfl rfl ?_
  refine v_get (ci := 3) (C := RX3) (T := TX3) (N := 8) (v := .int (nI ra)) 9 rfl 14 5 dX3_doSimple_6 rfl (Nat.le_of_ble_eq_true rfl) i3 (by decide +kernel) rfl rfl ?_
  refine v_aload_n 10 rfl dX3_doSimple_9 rfl rfl ?_
  refine v_get (ci := 3) (C := RX3) (T := TX3) (N := 8) (v := .ref (ad 1)) 13 rfl 14 1 dX3_doSimple_10 rfl (Nat.le_of_ble_eq_true rfl) i3 (by decide +kernel) rfl rfl ?_
  refine v_callF (n := 3) (q0 := 4) (ci := 1) 16 rfl (c_afterSimple tn fb t d v x ra hte hen hk hd hv hx hx3 hA hob hf hs htg hfn) gX3_doSimple_X1_afterSimple rfl (by decide +kernel) rfl ⟨(Nat.le_of_ble_eq_true rfl), (Nat.le_of_ble_eq_true rfl)⟩ rfl (Nat.le_of_ble_eq_true rfl) rfl rfl rfl dX3_doSimple_13 ⟨Nat.zero_le _, Nat.zero_le _⟩ rfl ?_
  refine v_st (st' := [.int (fI (sim tn fb d v x ra).1 (sim tn fb d v x ra).2)]) rfl ?_
  refine v_top (v' := nI ((sim tn fb d v x ra).2)) (by rw [h0]; rfl) ?_
  refine v_istore_n (lv' := [(2, .int (nI ((sim tn fb d v x ra).2))), (0, .ref (ad 14)), (1, .int (nI t))]) 17 rfl dX3_doSimple_16 rfl (Nat.le_of_ble_eq_true rfl) rfl ?_
  refine v_iload_n 18 rfl dX3_doSimple_17 rfl rfl ?_
  refine v_if_geN (a := (sim tn fb d v x ra).2) 43 21 rfl dX3_doSimple_18 (by decide) (by omega) ?_
  refine v_aload_n 44 rfl dX3_doSimple_43 rfl rfl ?_
  refine v_iload_n 45 rfl dX3_doSimple_44 rfl rfl ?_
  refine v_put (ci := 3) (C := RX3) (T := TX3) (ty0 := tyX3) (N := 8) (ty := .int) (w' := wC ad cI cZ tg fn ki nu fi se ju op en sm ob be af pl rf rp rs ((sim tn fb d v x ra).2) rb rl) 48 rfl 14 5 dX3_doSimple_45 rfl (Nat.le_of_ble_eq_true rfl) i3 tyX3_ok nmX3 (by decide +kernel) rfl (by decide +kernel) rfl rfl rfl (Nat.le_of_ble_eq_true rfl) rfl ?_
  refine v_aload_n 49 rfl dX3_doSimple_48 rfl rfl ?_
  refine v_dup 50 rfl dX3_doSimple_49 rfl ?_
  refine v_get (ci := 3) (C := RX3) (T := TX3) (N := 8) (v := .int (nI rs)) 53 rfl 14 4 dX3_doSimple_50 rfl (Nat.le_of_ble_eq_true rfl) i3 (by decide +kernel) rfl rfl ?_
  refine v_iconst (v := nI 1) 54 rfl dX3_doSimple_53 (by decide) ?_
  refine v_iaddN (a := rs) (b := 1) 55 rfl dX3_doSimple_54 ?_
  refine v_put (ci := 3) (C := RX3) (T := TX3) (ty0 := tyX3) (N := 8) (ty := .int) (w' := wC ad cI cZ tg fn ki nu fi se ju op en sm ob be af pl rf rp (rs + 1) ((sim tn fb d v x ra).2) rb rl) 58 rfl 14 4 dX3_doSimple_55 rfl (Nat.le_of_ble_eq_true rfl) i3 tyX3_ok nmX3 (by decide +kernel) rfl (by decide +kernel) rfl rfl rfl (Nat.le_of_ble_eq_true rfl) rfl ?_
  exact v_vret dX3_doSimple_58 rfl rfl rfl

set_option maxRecDepth 100000 in
set_option maxHeartbeats 4000000 in
theorem c_doSimpleF {D : va_G} {cI cZ cJ : ClassId} {l : Launch} {ad : Nat → Nat} {tg : Nat → Int32} {fn : Nat → Int32} {ki : Nat → Int32} {nu : Nat → Int32} {fi : Nat → Int32} {se : Nat → Int32} {ju : Nat → Int32} {op : Nat → Int32} {en : Nat} {sm : Nat} {ob : Nat} {be : Nat → Int32} {af : Nat → Int32} {pl : Int32} {rf : Int32} {rp : Int32} {rs : Nat} {ra : Nat} {rb : Int32} {rl : Nat} (tn : Nat → Nat) (fb : Nat → Bool) (t d v x : Nat) (hte : t < en) (hen : en ≤ 120) (hk : ki t = nI d) (hd : d < 4) (hv : v < 4) (hx : x < 4) (hx3 : d = 0 → x < 3) (hA : ra < 2 ^ 20) (hob : ∀ v, v < 4 → hb ra v ≤ 24) (hf : fi t = nI v) (hs : se t = nI x) (htg : ∀ i, i < 96 → tg i = oI (tn i) ∧ tn i ≤ 5) (hfn : ∀ o, o < 24 → fn o = bI (fb o)) (n : Int32) (hn : nu t = n) (h0 : (sim tn fb d v x ra).1 ≠ 0) : KM D (tyL cI cZ cJ) l yX3_doSimple wsX3_doSimple 3 70 [.ref (ad 14), .int (nI t)] (wC ad cI cZ tg fn ki nu fi se ju op en sm ob be af pl rf rp rs ra rb rl) none (wC ad cI cZ tg fn ki nu fi se ju op en sm ob be af pl (nI (sim tn fb d v x ra).1) n rs ra rb rl) := by
  refine KM.of (cc := cX3_doSimple) (nL := 3) (ret := none) (by decide +kernel) rfl (Nat.le_of_ble_eq_true rfl) ?_
  have i1 : ∀ w ∈ u_ws RX1 TX1 9, w ∈ wsX3_doSimple := by decide +kernel
  have i3 : ∀ w ∈ u_ws RX3 TX3 8, w ∈ wsX3_doSimple := by decide +kernel
  refine v_aload_n 1 rfl dX3_doSimple_0 rfl rfl ?_
  refine v_get (ci := 3) (C := RX3) (T := TX3) (N := 8) (v := .ref (ad 4)) 4 rfl 14 0 dX3_doSimple_1 rfl (Nat.le_of_ble_eq_true rfl) i3 (by decide +kernel) rfl rfl ?_
  refine v_iload_n 5 rfl dX3_doSimple_4 rfl rfl ?_
  refine v_aload_n 6 rfl dX3_doSimple_5 rfl rfl ?_
  refine v_get (ci := 3) (C := RX3) (T := TX3) (N := 8) (v := .int (nI ra)) 9 rfl 14 5 dX3_doSimple_6 rfl (Nat.le_of_ble_eq_true rfl) i3 (by decide +kernel) rfl rfl ?_
  refine v_aload_n 10 rfl dX3_doSimple_9 rfl rfl ?_
  refine v_get (ci := 3) (C := RX3) (T := TX3) (N := 8) (v := .ref (ad 1)) 13 rfl 14 1 dX3_doSimple_10 rfl (Nat.le_of_ble_eq_true rfl) i3 (by decide +kernel) rfl rfl ?_
  refine v_callF (n := 3) (q0 := 4) (ci := 1) 16 rfl (c_afterSimple tn fb t d v x ra hte hen hk hd hv hx hx3 hA hob hf hs htg hfn) gX3_doSimple_X1_afterSimple rfl (by decide +kernel) rfl ⟨(Nat.le_of_ble_eq_true rfl), (Nat.le_of_ble_eq_true rfl)⟩ rfl (Nat.le_of_ble_eq_true rfl) rfl rfl rfl dX3_doSimple_13 ⟨Nat.zero_le _, Nat.zero_le _⟩ rfl ?_
  refine v_st (st' := [.int (fI (sim tn fb d v x ra).1 (sim tn fb d v x ra).2)]) rfl ?_
  refine v_top (v' := -nI (sim tn fb d v x ra).1) (fI_s h0 _) ?_
  refine v_istore_n (lv' := [(2, .int (-nI (sim tn fb d v x ra).1)), (0, .ref (ad 14)), (1, .int (nI t))]) 17 rfl dX3_doSimple_16 rfl (Nat.le_of_ble_eq_true rfl) rfl ?_
  refine v_iload_n 18 rfl dX3_doSimple_17 rfl rfl ?_
  refine v_if_ge 43 21 rfl dX3_doSimple_18 (by decide) (fun q => absurd q (neg_nle (sim_lt _ _ _ _ _ _) h0)) (fun c18 => ?_)
  refine v_aload_n 22 rfl dX3_doSimple_21 rfl rfl ?_
  refine v_iload_n 23 rfl dX3_doSimple_22 rfl rfl ?_
  refine v_ineg 24 rfl dX3_doSimple_23 ?_
  refine v_top (v' := nI ((sim tn fb d v x ra).1)) (neg_neg9 _ (sim_lt _ _ _ _ _ _)) ?_
  refine v_put (ci := 3) (C := RX3) (T := TX3) (ty0 := tyX3) (N := 8) (ty := .int) (w' := wC ad cI cZ tg fn ki nu fi se ju op en sm ob be af pl (nI ((sim tn fb d v x ra).1)) rp rs ra rb rl) 27 rfl 14 2 dX3_doSimple_24 rfl (Nat.le_of_ble_eq_true rfl) i3 tyX3_ok nmX3 (by decide +kernel) rfl (by decide +kernel) rfl rfl rfl (Nat.le_of_ble_eq_true rfl) rfl ?_
  refine v_aload_n 28 rfl dX3_doSimple_27 rfl rfl ?_
  refine v_aload_n 29 rfl dX3_doSimple_28 rfl rfl ?_
  refine v_get (ci := 3) (C := RX3) (T := TX3) (N := 8) (v := .ref (ad 4)) 32 rfl 14 0 dX3_doSimple_29 rfl (Nat.le_of_ble_eq_true rfl) i3 (by decide +kernel) rfl rfl ?_
  refine v_getN (ci := 1) (C := RX1) (T := TX1) (N := 9) (v := .ref (ad 6)) 35 rfl 4 1 dX3_doSimple_32 rfl (Nat.le_of_ble_eq_true rfl) i1 (by decide +kernel) rfl rfl ?_
  refine v_iload_n 36 rfl dX3_doSimple_35 rfl rfl ?_
  refine v_iald (j := t) (v := n) 37 rfl 6 0 dX3_doSimple_36 rfl rfl (by omega) (by decide) hn ?_
  refine v_put (ci := 3) (C := RX3) (T := TX3) (ty0 := tyX3) (N := 8) (ty := .int) (w' := wC ad cI cZ tg fn ki nu fi se ju op en sm ob be af pl (nI ((sim tn fb d v x ra).1)) n rs ra rb rl) 40 rfl 14 3 dX3_doSimple_37 rfl (Nat.le_of_ble_eq_true rfl) i3 tyX3_ok nmX3 (by decide +kernel) rfl (by decide +kernel) rfl rfl rfl (Nat.le_of_ble_eq_true rfl) rfl ?_
  refine v_goto 58 dX3_doSimple_40 (by decide) ?_
  exact v_vret dX3_doSimple_58 rfl rfl rfl

set_option maxRecDepth 100000 in
set_option maxHeartbeats 4000000 in
theorem c_doOpen4 {D : va_G} {cI cZ cJ : ClassId} {l : Launch} {ad : Nat → Nat} {tg : Nat → Int32} {fn : Nat → Int32} {ki : Nat → Int32} {nu : Nat → Int32} {fi : Nat → Int32} {se : Nat → Int32} {ju : Nat → Int32} {op : Nat → Int32} {en : Nat} {sm : Nat} {ob : Nat} {be : Nat → Int32} {af : Nat → Int32} {pl : Int32} {rf : Int32} {rp : Int32} {rs : Nat} {ra : Nat} {rb : Int32} {rl : Nat} (t j : Nat) (hte : t < en) (hen : en ≤ 120) (hj : ju t = nI j) (hl : rl ≤ 32) (hk : ki t = nI 4) : KM D (tyL cI cZ cJ) l yX3_doEntry wsX3_doEntry 4 92 [.ref (ad 14), .int (nI t)] (wC ad cI cZ tg fn ki nu fi se ju op en sm ob be af pl rf rp rs ra rb rl) (some (.int (nI (if (rbit rb rl).1 = true then t + 1 else j)))) (wC ad cI cZ tg fn ki nu fi se ju op en sm ob be af pl rf rp (rs + 1) ra ((rbit rb rl).2.1) ((rbit rb rl).2.2)) := by
  refine KM.of (cc := cX3_doEntry) (nL := 2) (ret := (some .int)) (by decide +kernel) rfl (Nat.le_of_ble_eq_true rfl) ?_
  have i1 : ∀ w ∈ u_ws RX1 TX1 9, w ∈ wsX3_doEntry := by decide +kernel
  have i3 : ∀ w ∈ u_ws RX3 TX3 8, w ∈ wsX3_doEntry := by decide +kernel
  refine v_aload_n 1 rfl dX3_doEntry_0 rfl rfl ?_
  refine v_get (ci := 3) (C := RX3) (T := TX3) (N := 8) (v := .ref (ad 4)) 4 rfl 14 0 dX3_doEntry_1 rfl (Nat.le_of_ble_eq_true rfl) i3 (by decide +kernel) rfl rfl ?_
  refine v_getN (ci := 1) (C := RX1) (T := TX1) (N := 9) (v := .ref (ad 5)) 7 rfl 4 0 dX3_doEntry_4 rfl (Nat.le_of_ble_eq_true rfl) i1 (by decide +kernel) rfl rfl ?_
  refine v_iload_n 8 rfl dX3_doEntry_7 rfl rfl ?_
  refine v_iald (j := t) (v := nI 4) 9 rfl 5 0 dX3_doEntry_8 rfl rfl (by omega) (by decide) hk ?_
  refine v_tabIn (a := 4) 44 dX3_doEntry_9 (by omega) (by omega) (by omega) rfl (by decide) ?_
  refine v_aload_n 45 rfl dX3_doEntry_44 rfl rfl ?_
  refine v_callF (n := 0) (q0 := 14) (ci := 3) 48 rfl (c_takeBit hl) gX3_doEntry_X3_takeBit rfl (by decide +kernel) rfl ⟨(Nat.le_of_ble_eq_true rfl), (Nat.le_of_ble_eq_true rfl)⟩ rfl (Nat.le_of_ble_eq_true rfl) rfl rfl rfl dX3_doEntry_45 ⟨Nat.zero_le _, Nat.zero_le _⟩ rfl ?_
  refine v_st (st' := [.int (bI ((rbit rb rl).1))]) rfl ?_
  refine v_if_eqB (b := (rbit rb rl).1) 57 51 rfl dX3_doEntry_48 (by decide) (fun c48 => ?_) (fun c48 => ?_)
  · refine v_aload_n 58 rfl dX3_doEntry_57 rfl rfl ?_
    refine v_get (ci := 3) (C := RX3) (T := TX3) (N := 8) (v := .ref (ad 4)) 61 rfl 14 0 dX3_doEntry_58 rfl (Nat.le_of_ble_eq_true rfl) i3 (by decide +kernel) rfl rfl ?_
    refine v_getN (ci := 1) (C := RX1) (T := TX1) (N := 9) (v := .ref (ad 9)) 64 rfl 4 4 dX3_doEntry_61 rfl (Nat.le_of_ble_eq_true rfl) i1 (by decide +kernel) rfl rfl ?_
    refine v_iload_n 65 rfl dX3_doEntry_64 rfl rfl ?_
    refine v_iald (j := t) (v := nI j) 66 rfl 9 0 dX3_doEntry_65 rfl rfl (by omega) (by decide) hj ?_
    exact v_iret dX3_doEntry_66 rfl (by simp [*]) rfl
  · refine v_iload_n 52 rfl dX3_doEntry_51 rfl rfl ?_
    refine v_iconst (v := nI 1) 53 rfl dX3_doEntry_52 (by decide) ?_
    refine v_iaddN (a := t) (b := 1) 54 rfl dX3_doEntry_53 ?_
    refine v_goto 66 dX3_doEntry_54 (by decide) ?_
    exact v_iret dX3_doEntry_66 rfl (by simp [*]) rfl

set_option maxRecDepth 100000 in
set_option maxHeartbeats 4000000 in
theorem c_doOpen7 {D : va_G} {cI cZ cJ : ClassId} {l : Launch} {ad : Nat → Nat} {tg : Nat → Int32} {fn : Nat → Int32} {ki : Nat → Int32} {nu : Nat → Int32} {fi : Nat → Int32} {se : Nat → Int32} {ju : Nat → Int32} {op : Nat → Int32} {en : Nat} {sm : Nat} {ob : Nat} {be : Nat → Int32} {af : Nat → Int32} {pl : Int32} {rf : Int32} {rp : Int32} {rs : Nat} {ra : Nat} {rb : Int32} {rl : Nat} (t j : Nat) (hte : t < en) (hen : en ≤ 120) (hj : ju t = nI j) (hl : rl ≤ 32) (hk : ki t = nI 7) : KM D (tyL cI cZ cJ) l yX3_doEntry wsX3_doEntry 4 92 [.ref (ad 14), .int (nI t)] (wC ad cI cZ tg fn ki nu fi se ju op en sm ob be af pl rf rp rs ra rb rl) (some (.int (nI (if (rbit rb rl).1 = true then t + 1 else j)))) (wC ad cI cZ tg fn ki nu fi se ju op en sm ob be af pl rf rp (rs + 1) ra ((rbit rb rl).2.1) ((rbit rb rl).2.2)) := by
  refine KM.of (cc := cX3_doEntry) (nL := 2) (ret := (some .int)) (by decide +kernel) rfl (Nat.le_of_ble_eq_true rfl) ?_
  have i1 : ∀ w ∈ u_ws RX1 TX1 9, w ∈ wsX3_doEntry := by decide +kernel
  have i3 : ∀ w ∈ u_ws RX3 TX3 8, w ∈ wsX3_doEntry := by decide +kernel
  refine v_aload_n 1 rfl dX3_doEntry_0 rfl rfl ?_
  refine v_get (ci := 3) (C := RX3) (T := TX3) (N := 8) (v := .ref (ad 4)) 4 rfl 14 0 dX3_doEntry_1 rfl (Nat.le_of_ble_eq_true rfl) i3 (by decide +kernel) rfl rfl ?_
  refine v_getN (ci := 1) (C := RX1) (T := TX1) (N := 9) (v := .ref (ad 5)) 7 rfl 4 0 dX3_doEntry_4 rfl (Nat.le_of_ble_eq_true rfl) i1 (by decide +kernel) rfl rfl ?_
  refine v_iload_n 8 rfl dX3_doEntry_7 rfl rfl ?_
  refine v_iald (j := t) (v := nI 7) 9 rfl 5 0 dX3_doEntry_8 rfl rfl (by omega) (by decide) hk ?_
  refine v_tabIn (a := 7) 44 dX3_doEntry_9 (by omega) (by omega) (by omega) rfl (by decide) ?_
  refine v_aload_n 45 rfl dX3_doEntry_44 rfl rfl ?_
  refine v_callF (n := 0) (q0 := 14) (ci := 3) 48 rfl (c_takeBit hl) gX3_doEntry_X3_takeBit rfl (by decide +kernel) rfl ⟨(Nat.le_of_ble_eq_true rfl), (Nat.le_of_ble_eq_true rfl)⟩ rfl (Nat.le_of_ble_eq_true rfl) rfl rfl rfl dX3_doEntry_45 ⟨Nat.zero_le _, Nat.zero_le _⟩ rfl ?_
  refine v_st (st' := [.int (bI ((rbit rb rl).1))]) rfl ?_
  refine v_if_eqB (b := (rbit rb rl).1) 57 51 rfl dX3_doEntry_48 (by decide) (fun c48 => ?_) (fun c48 => ?_)
  · refine v_aload_n 58 rfl dX3_doEntry_57 rfl rfl ?_
    refine v_get (ci := 3) (C := RX3) (T := TX3) (N := 8) (v := .ref (ad 4)) 61 rfl 14 0 dX3_doEntry_58 rfl (Nat.le_of_ble_eq_true rfl) i3 (by decide +kernel) rfl rfl ?_
    refine v_getN (ci := 1) (C := RX1) (T := TX1) (N := 9) (v := .ref (ad 9)) 64 rfl 4 4 dX3_doEntry_61 rfl (Nat.le_of_ble_eq_true rfl) i1 (by decide +kernel) rfl rfl ?_
    refine v_iload_n 65 rfl dX3_doEntry_64 rfl rfl ?_
    refine v_iald (j := t) (v := nI j) 66 rfl 9 0 dX3_doEntry_65 rfl rfl (by omega) (by decide) hj ?_
    exact v_iret dX3_doEntry_66 rfl (by simp [*]) rfl
  · refine v_iload_n 52 rfl dX3_doEntry_51 rfl rfl ?_
    refine v_iconst (v := nI 1) 53 rfl dX3_doEntry_52 (by decide) ?_
    refine v_iaddN (a := t) (b := 1) 54 rfl dX3_doEntry_53 ?_
    refine v_goto 66 dX3_doEntry_54 (by decide) ?_
    exact v_iret dX3_doEntry_66 rfl (by simp [*]) rfl

set_option maxRecDepth 100000 in
set_option maxHeartbeats 4000000 in
theorem c_doJump5 {D : va_G} {cI cZ cJ : ClassId} {l : Launch} {ad : Nat → Nat} {tg : Nat → Int32} {fn : Nat → Int32} {ki : Nat → Int32} {nu : Nat → Int32} {fi : Nat → Int32} {se : Nat → Int32} {ju : Nat → Int32} {op : Nat → Int32} {en : Nat} {sm : Nat} {ob : Nat} {be : Nat → Int32} {af : Nat → Int32} {pl : Int32} {rf : Int32} {rp : Int32} {rs : Nat} {ra : Nat} {rb : Int32} {rl : Nat} (t j : Nat) (hte : t < en) (hen : en ≤ 120) (hj : ju t = nI j) (hl : rl ≤ 32) (hk : ki t = nI 5) : KM D (tyL cI cZ cJ) l yX3_doEntry wsX3_doEntry 4 92 [.ref (ad 14), .int (nI t)] (wC ad cI cZ tg fn ki nu fi se ju op en sm ob be af pl rf rp rs ra rb rl) (some (.int (nI j))) (wC ad cI cZ tg fn ki nu fi se ju op en sm ob be af pl rf rp rs ra rb rl) := by
  refine KM.of (cc := cX3_doEntry) (nL := 2) (ret := (some .int)) (by decide +kernel) rfl (Nat.le_of_ble_eq_true rfl) ?_
  have i1 : ∀ w ∈ u_ws RX1 TX1 9, w ∈ wsX3_doEntry := by decide +kernel
  have i3 : ∀ w ∈ u_ws RX3 TX3 8, w ∈ wsX3_doEntry := by decide +kernel
  refine v_aload_n 1 rfl dX3_doEntry_0 rfl rfl ?_
  refine v_get (ci := 3) (C := RX3) (T := TX3) (N := 8) (v := .ref (ad 4)) 4 rfl 14 0 dX3_doEntry_1 rfl (Nat.le_of_ble_eq_true rfl) i3 (by decide +kernel) rfl rfl ?_
  refine v_getN (ci := 1) (C := RX1) (T := TX1) (N := 9) (v := .ref (ad 5)) 7 rfl 4 0 dX3_doEntry_4 rfl (Nat.le_of_ble_eq_true rfl) i1 (by decide +kernel) rfl rfl ?_
  refine v_iload_n 8 rfl dX3_doEntry_7 rfl rfl ?_
  refine v_iald (j := t) (v := nI 5) 9 rfl 5 0 dX3_doEntry_8 rfl rfl (by omega) (by decide) hk ?_
  refine v_tabIn (a := 5) 67 dX3_doEntry_9 (by omega) (by omega) (by omega) rfl (by decide) ?_
  refine v_aload_n 68 rfl dX3_doEntry_67 rfl rfl ?_
  refine v_get (ci := 3) (C := RX3) (T := TX3) (N := 8) (v := .ref (ad 4)) 71 rfl 14 0 dX3_doEntry_68 rfl (Nat.le_of_ble_eq_true rfl) i3 (by decide +kernel) rfl rfl ?_
  refine v_getN (ci := 1) (C := RX1) (T := TX1) (N := 9) (v := .ref (ad 9)) 74 rfl 4 4 dX3_doEntry_71 rfl (Nat.le_of_ble_eq_true rfl) i1 (by decide +kernel) rfl rfl ?_
  refine v_iload_n 75 rfl dX3_doEntry_74 rfl rfl ?_
  refine v_iald (j := t) (v := nI j) 76 rfl 9 0 dX3_doEntry_75 rfl rfl (by omega) (by decide) hj ?_
  exact v_iret dX3_doEntry_76 rfl rfl rfl

set_option maxRecDepth 100000 in
set_option maxHeartbeats 4000000 in
theorem c_doJump8 {D : va_G} {cI cZ cJ : ClassId} {l : Launch} {ad : Nat → Nat} {tg : Nat → Int32} {fn : Nat → Int32} {ki : Nat → Int32} {nu : Nat → Int32} {fi : Nat → Int32} {se : Nat → Int32} {ju : Nat → Int32} {op : Nat → Int32} {en : Nat} {sm : Nat} {ob : Nat} {be : Nat → Int32} {af : Nat → Int32} {pl : Int32} {rf : Int32} {rp : Int32} {rs : Nat} {ra : Nat} {rb : Int32} {rl : Nat} (t j : Nat) (hte : t < en) (hen : en ≤ 120) (hj : ju t = nI j) (hl : rl ≤ 32) (hk : ki t = nI 8) : KM D (tyL cI cZ cJ) l yX3_doEntry wsX3_doEntry 4 92 [.ref (ad 14), .int (nI t)] (wC ad cI cZ tg fn ki nu fi se ju op en sm ob be af pl rf rp rs ra rb rl) (some (.int (nI j))) (wC ad cI cZ tg fn ki nu fi se ju op en sm ob be af pl rf rp rs ra rb rl) := by
  refine KM.of (cc := cX3_doEntry) (nL := 2) (ret := (some .int)) (by decide +kernel) rfl (Nat.le_of_ble_eq_true rfl) ?_
  have i1 : ∀ w ∈ u_ws RX1 TX1 9, w ∈ wsX3_doEntry := by decide +kernel
  have i3 : ∀ w ∈ u_ws RX3 TX3 8, w ∈ wsX3_doEntry := by decide +kernel
  refine v_aload_n 1 rfl dX3_doEntry_0 rfl rfl ?_
  refine v_get (ci := 3) (C := RX3) (T := TX3) (N := 8) (v := .ref (ad 4)) 4 rfl 14 0 dX3_doEntry_1 rfl (Nat.le_of_ble_eq_true rfl) i3 (by decide +kernel) rfl rfl ?_
  refine v_getN (ci := 1) (C := RX1) (T := TX1) (N := 9) (v := .ref (ad 5)) 7 rfl 4 0 dX3_doEntry_4 rfl (Nat.le_of_ble_eq_true rfl) i1 (by decide +kernel) rfl rfl ?_
  refine v_iload_n 8 rfl dX3_doEntry_7 rfl rfl ?_
  refine v_iald (j := t) (v := nI 8) 9 rfl 5 0 dX3_doEntry_8 rfl rfl (by omega) (by decide) hk ?_
  refine v_tabIn (a := 8) 67 dX3_doEntry_9 (by omega) (by omega) (by omega) rfl (by decide) ?_
  refine v_aload_n 68 rfl dX3_doEntry_67 rfl rfl ?_
  refine v_get (ci := 3) (C := RX3) (T := TX3) (N := 8) (v := .ref (ad 4)) 71 rfl 14 0 dX3_doEntry_68 rfl (Nat.le_of_ble_eq_true rfl) i3 (by decide +kernel) rfl rfl ?_
  refine v_getN (ci := 1) (C := RX1) (T := TX1) (N := 9) (v := .ref (ad 9)) 74 rfl 4 4 dX3_doEntry_71 rfl (Nat.le_of_ble_eq_true rfl) i1 (by decide +kernel) rfl rfl ?_
  refine v_iload_n 75 rfl dX3_doEntry_74 rfl rfl ?_
  refine v_iald (j := t) (v := nI j) 76 rfl 9 0 dX3_doEntry_75 rfl rfl (by omega) (by decide) hj ?_
  exact v_iret dX3_doEntry_76 rfl rfl rfl

set_option maxRecDepth 100000 in
set_option maxHeartbeats 4000000 in
theorem c_doEndIf {D : va_G} {cI cZ cJ : ClassId} {l : Launch} {ad : Nat → Nat} {tg : Nat → Int32} {fn : Nat → Int32} {ki : Nat → Int32} {nu : Nat → Int32} {fi : Nat → Int32} {se : Nat → Int32} {ju : Nat → Int32} {op : Nat → Int32} {en : Nat} {sm : Nat} {ob : Nat} {be : Nat → Int32} {af : Nat → Int32} {pl : Int32} {rf : Int32} {rp : Int32} {rs : Nat} {ra : Nat} {rb : Int32} {rl : Nat} (t j : Nat) (hte : t < en) (hen : en ≤ 120) (hj : ju t = nI j) (hl : rl ≤ 32) (hk : ki t = nI 6) : KM D (tyL cI cZ cJ) l yX3_doEntry wsX3_doEntry 4 92 [.ref (ad 14), .int (nI t)] (wC ad cI cZ tg fn ki nu fi se ju op en sm ob be af pl rf rp rs ra rb rl) (some (.int (nI (t + 1)))) (wC ad cI cZ tg fn ki nu fi se ju op en sm ob be af pl rf rp rs ra rb rl) := by
  refine KM.of (cc := cX3_doEntry) (nL := 2) (ret := (some .int)) (by decide +kernel) rfl (Nat.le_of_ble_eq_true rfl) ?_
  have i1 : ∀ w ∈ u_ws RX1 TX1 9, w ∈ wsX3_doEntry := by decide +kernel
  have i3 : ∀ w ∈ u_ws RX3 TX3 8, w ∈ wsX3_doEntry := by decide +kernel
  refine v_aload_n 1 rfl dX3_doEntry_0 rfl rfl ?_
  refine v_get (ci := 3) (C := RX3) (T := TX3) (N := 8) (v := .ref (ad 4)) 4 rfl 14 0 dX3_doEntry_1 rfl (Nat.le_of_ble_eq_true rfl) i3 (by decide +kernel) rfl rfl ?_
  refine v_getN (ci := 1) (C := RX1) (T := TX1) (N := 9) (v := .ref (ad 5)) 7 rfl 4 0 dX3_doEntry_4 rfl (Nat.le_of_ble_eq_true rfl) i1 (by decide +kernel) rfl rfl ?_
  refine v_iload_n 8 rfl dX3_doEntry_7 rfl rfl ?_
  refine v_iald (j := t) (v := nI 6) 9 rfl 5 0 dX3_doEntry_8 rfl rfl (by omega) (by decide) hk ?_
  refine v_tabIn (a := 6) 77 dX3_doEntry_9 (by omega) (by omega) (by omega) rfl (by decide) ?_
  refine v_iload_n 78 rfl dX3_doEntry_77 rfl rfl ?_
  refine v_iconst (v := nI 1) 79 rfl dX3_doEntry_78 (by decide) ?_
  refine v_iaddN (a := t) (b := 1) 80 rfl dX3_doEntry_79 ?_
  exact v_iret dX3_doEntry_80 rfl rfl rfl

set_option maxRecDepth 100000 in
set_option maxHeartbeats 4000000 in
theorem c_doEntry0 {D : va_G} {cI cZ cJ : ClassId} {l : Launch} {ad : Nat → Nat} {tg : Nat → Int32} {fn : Nat → Int32} {ki : Nat → Int32} {nu : Nat → Int32} {fi : Nat → Int32} {se : Nat → Int32} {ju : Nat → Int32} {op : Nat → Int32} {en : Nat} {sm : Nat} {ob : Nat} {be : Nat → Int32} {af : Nat → Int32} {pl : Int32} {rf : Int32} {rp : Int32} {rs : Nat} {ra : Nat} {rb : Int32} {rl : Nat} (tn : Nat → Nat) (fb : Nat → Bool) (t d v x : Nat) (hte : t < en) (hen : en ≤ 120) (hk : ki t = nI d) (hd : d < 4) (hv : v < 4) (hx : x < 4) (hx3 : d = 0 → x < 3) (hA : ra < 2 ^ 20) (hob : ∀ v, v < 4 → hb ra v ≤ 24) (hf : fi t = nI v) (hs : se t = nI x) (htg : ∀ i, i < 96 → tg i = oI (tn i) ∧ tn i ≤ 5) (hfn : ∀ o, o < 24 → fn o = bI (fb o)) (h0 : (sim tn fb d v x ra).1 = 0) (hb2 : (sim tn fb d v x ra).2 < 2 ^ 20) : KM D (tyL cI cZ cJ) l yX3_doEntry wsX3_doEntry 4 92 [.ref (ad 14), .int (nI t)] (wC ad cI cZ tg fn ki nu fi se ju op en sm ob be af pl rf rp rs ra rb rl) (some (.int (nI (t + 1)))) (wC ad cI cZ tg fn ki nu fi se ju op en sm ob be af pl rf rp (rs + 1) ((sim tn fb d v x ra).2) rb rl) := by
  refine KM.of (cc := cX3_doEntry) (nL := 2) (ret := (some .int)) (by decide +kernel) rfl (Nat.le_of_ble_eq_true rfl) ?_
  have i1 : ∀ w ∈ u_ws RX1 TX1 9, w ∈ wsX3_doEntry := by decide +kernel
  have i3 : ∀ w ∈ u_ws RX3 TX3 8, w ∈ wsX3_doEntry := by decide +kernel
  refine v_aload_n 1 rfl dX3_doEntry_0 rfl rfl ?_
  refine v_get (ci := 3) (C := RX3) (T := TX3) (N := 8) (v := .ref (ad 4)) 4 rfl 14 0 dX3_doEntry_1 rfl (Nat.le_of_ble_eq_true rfl) i3 (by decide +kernel) rfl rfl ?_
  refine v_getN (ci := 1) (C := RX1) (T := TX1) (N := 9) (v := .ref (ad 5)) 7 rfl 4 0 dX3_doEntry_4 rfl (Nat.le_of_ble_eq_true rfl) i1 (by decide +kernel) rfl rfl ?_
  refine v_iload_n 8 rfl dX3_doEntry_7 rfl rfl ?_
  refine v_iald (j := t) (v := nI d) 9 rfl 5 0 dX3_doEntry_8 rfl rfl (by omega) (by decide) hk ?_
  refine v_tabOut (a := d) 81 dX3_doEntry_9 (by omega) (by omega) (by decide) ?_
  refine v_aload_n 82 rfl dX3_doEntry_81 rfl rfl ?_
  refine v_iload_n 83 rfl dX3_doEntry_82 rfl rfl ?_
  refine v_callF (n := 1) (q0 := 14) (ci := 3) 86 rfl (c_doSimple0 tn fb t d v x hte hen hk hd hv hx hx3 hA hob hf hs htg hfn h0 hb2) gX3_doEntry_X3_doSimple rfl (by decide +kernel) rfl ⟨(Nat.le_of_ble_eq_true rfl), (Nat.le_of_ble_eq_true rfl)⟩ rfl (Nat.le_of_ble_eq_true rfl) rfl rfl rfl dX3_doEntry_83 ⟨Nat.zero_le _, Nat.zero_le _⟩ rfl ?_
  refine v_st (st' := []) rfl ?_
  refine v_iload_n 87 rfl dX3_doEntry_86 rfl rfl ?_
  refine v_iconst (v := nI 1) 88 rfl dX3_doEntry_87 (by decide) ?_
  refine v_iaddN (a := t) (b := 1) 89 rfl dX3_doEntry_88 ?_
  exact v_iret dX3_doEntry_89 rfl rfl rfl

set_option maxRecDepth 100000 in
set_option maxHeartbeats 4000000 in
theorem c_doEntryF {D : va_G} {cI cZ cJ : ClassId} {l : Launch} {ad : Nat → Nat} {tg : Nat → Int32} {fn : Nat → Int32} {ki : Nat → Int32} {nu : Nat → Int32} {fi : Nat → Int32} {se : Nat → Int32} {ju : Nat → Int32} {op : Nat → Int32} {en : Nat} {sm : Nat} {ob : Nat} {be : Nat → Int32} {af : Nat → Int32} {pl : Int32} {rf : Int32} {rp : Int32} {rs : Nat} {ra : Nat} {rb : Int32} {rl : Nat} (tn : Nat → Nat) (fb : Nat → Bool) (t d v x : Nat) (hte : t < en) (hen : en ≤ 120) (hk : ki t = nI d) (hd : d < 4) (hv : v < 4) (hx : x < 4) (hx3 : d = 0 → x < 3) (hA : ra < 2 ^ 20) (hob : ∀ v, v < 4 → hb ra v ≤ 24) (hf : fi t = nI v) (hs : se t = nI x) (htg : ∀ i, i < 96 → tg i = oI (tn i) ∧ tn i ≤ 5) (hfn : ∀ o, o < 24 → fn o = bI (fb o)) (n : Int32) (hn : nu t = n) (h0 : (sim tn fb d v x ra).1 ≠ 0) : KM D (tyL cI cZ cJ) l yX3_doEntry wsX3_doEntry 4 92 [.ref (ad 14), .int (nI t)] (wC ad cI cZ tg fn ki nu fi se ju op en sm ob be af pl rf rp rs ra rb rl) (some (.int (nI (t + 1)))) (wC ad cI cZ tg fn ki nu fi se ju op en sm ob be af pl (nI (sim tn fb d v x ra).1) n rs ra rb rl) := by
  refine KM.of (cc := cX3_doEntry) (nL := 2) (ret := (some .int)) (by decide +kernel) rfl (Nat.le_of_ble_eq_true rfl) ?_
  have i1 : ∀ w ∈ u_ws RX1 TX1 9, w ∈ wsX3_doEntry := by decide +kernel
  have i3 : ∀ w ∈ u_ws RX3 TX3 8, w ∈ wsX3_doEntry := by decide +kernel
  refine v_aload_n 1 rfl dX3_doEntry_0 rfl rfl ?_
  refine v_get (ci := 3) (C := RX3) (T := TX3) (N := 8) (v := .ref (ad 4)) 4 rfl 14 0 dX3_doEntry_1 rfl (Nat.le_of_ble_eq_true rfl) i3 (by decide +kernel) rfl rfl ?_
  refine v_getN (ci := 1) (C := RX1) (T := TX1) (N := 9) (v := .ref (ad 5)) 7 rfl 4 0 dX3_doEntry_4 rfl (Nat.le_of_ble_eq_true rfl) i1 (by decide +kernel) rfl rfl ?_
  refine v_iload_n 8 rfl dX3_doEntry_7 rfl rfl ?_
  refine v_iald (j := t) (v := nI d) 9 rfl 5 0 dX3_doEntry_8 rfl rfl (by omega) (by decide) hk ?_
  refine v_tabOut (a := d) 81 dX3_doEntry_9 (by omega) (by omega) (by decide) ?_
  refine v_aload_n 82 rfl dX3_doEntry_81 rfl rfl ?_
  refine v_iload_n 83 rfl dX3_doEntry_82 rfl rfl ?_
  refine v_callF (n := 1) (q0 := 14) (ci := 3) 86 rfl (c_doSimpleF tn fb t d v x hte hen hk hd hv hx hx3 hA hob hf hs htg hfn n hn h0) gX3_doEntry_X3_doSimple rfl (by decide +kernel) rfl ⟨(Nat.le_of_ble_eq_true rfl), (Nat.le_of_ble_eq_true rfl)⟩ rfl (Nat.le_of_ble_eq_true rfl) rfl rfl rfl dX3_doEntry_83 ⟨Nat.zero_le _, Nat.zero_le _⟩ rfl ?_
  refine v_st (st' := []) rfl ?_
  refine v_iload_n 87 rfl dX3_doEntry_86 rfl rfl ?_
  refine v_iconst (v := nI 1) 88 rfl dX3_doEntry_87 (by decide) ?_
  refine v_iaddN (a := t) (b := 1) 89 rfl dX3_doEntry_88 ?_
  exact v_iret dX3_doEntry_89 rfl rfl rfl

/-- what an entry needs, for a run -/
def SafR (ki fi se ju : Nat → Int32) (t A rl : Nat) : Prop := ∃ d v x j : Nat, ki t = nI d ∧ d < 9 ∧ ju t = nI j ∧ j ≤ 120 ∧ fi t = nI v ∧ v < 4 ∧ se t = nI x ∧ x < 4 ∧ (d = 0 → x < 3) ∧ A < 2 ^ 20 ∧ (∀ v, v < 4 → hb A v ≤ 24) ∧ rl ≤ 32
theorem rstA_lt (tn : Nat → Nat) (fb : Nat → Bool) (ki fi se ju : Nat → Int32) (t A rs : Nat) (rb : Int32) (rl : Nat) : (rstA tn fb ki fi se ju t A rs rb rl).1 < 9 := by
  unfold rstA rst
  have := sim_lt tn fb (tN (ki t)) (tN (fi t)) (tN (se t)) A
  split
  · simp
  split
  · simp
  split
  · simp
  split
  · simp
  exact this
theorem c_doEntry {D : va_G} {cI cZ cJ : ClassId} {l : Launch} {ad : Nat → Nat} {tg : Nat → Int32} {fn : Nat → Int32} {ki : Nat → Int32} {nu : Nat → Int32} {fi : Nat → Int32} {se : Nat → Int32} {ju : Nat → Int32} {op : Nat → Int32} {en : Nat} {sm : Nat} {ob : Nat} {be : Nat → Int32} {af : Nat → Int32} {pl : Int32} {rf : Int32} {rp : Int32} {rs : Nat} {ra : Nat} {rb : Int32} {rl : Nat} (tn : Nat → Nat) (fb : Nat → Bool) (t : Nat) (hte : t < en) (hen : en ≤ 120) (hsaf : SafR ki fi se ju t ra rl) (htg : ∀ i, i < 96 → tg i = oI (tn i) ∧ tn i ≤ 5) (hfn : ∀ o, o < 24 → fn o = bI (fb o)) (hA2 : (rstA tn fb ki fi se ju t ra rs rb rl).2.2.1 < 2 ^ 20) : KM D (tyL cI cZ cJ) l yX3_doEntry wsX3_doEntry 4 92 [.ref (ad 14), .int (nI t)] (wC ad cI cZ tg fn ki nu fi se ju op en sm ob be af pl rf rp rs ra rb rl) (some (.int (nI (rstA tn fb ki fi se ju t ra rs rb rl).2.1))) (wC ad cI cZ tg fn ki nu fi se ju op en sm ob be af pl (if (rstA tn fb ki fi se ju t ra rs rb rl).1 = 0 then rf else nI (rstA tn fb ki fi se ju t ra rs rb rl).1) (if (rstA tn fb ki fi se ju t ra rs rb rl).1 = 0 then rp else nu t) ((rstA tn fb ki fi se ju t ra rs rb rl).2.2.2.1) ((rstA tn fb ki fi se ju t ra rs rb rl).2.2.1) ((rstA tn fb ki fi se ju t ra rs rb rl).2.2.2.2.1) ((rstA tn fb ki fi se ju t ra rs rb rl).2.2.2.2.2)) := by
  obtain ⟨d, v, x, j, hk, hd, hj, hj2, hf, hv, hs, hx, hx3, hA, hob, hl⟩ := hsaf
  have e0 : rstA tn fb ki fi se ju t ra rs rb rl = rst tn fb d v x j t ra rs rb rl := by simp only [rstA]; rw [hk, hf, hs, hj, tN_nI (by omega), tN_nI (by omega), tN_nI (by omega), tN_nI (by omega)]
  rw [e0] at hA2 ⊢
  by_cases d4 : d = 4
  · subst d4
    have e : rst tn fb 4 v x j t ra rs rb rl = (0, if (rbit rb rl).1 = true then t + 1 else j, ra, rs + 1, (rbit rb rl).2.1, (rbit rb rl).2.2) := by simp [rst]
    rw [e]
    exact c_doOpen4 t j hte hen hj hl hk
  by_cases d7 : d = 7
  · subst d7
    have e : rst tn fb 7 v x j t ra rs rb rl = (0, if (rbit rb rl).1 = true then t + 1 else j, ra, rs + 1, (rbit rb rl).2.1, (rbit rb rl).2.2) := by simp [rst]
    rw [e]
    exact c_doOpen7 t j hte hen hj hl hk
  by_cases d5 : d = 5
  · subst d5
    have e : rst tn fb 5 v x j t ra rs rb rl = (0, j, ra, rs, rb, rl) := by simp [rst]
    rw [e]
    exact c_doJump5 t j hte hen hj hl hk
  by_cases d8 : d = 8
  · subst d8
    have e : rst tn fb 8 v x j t ra rs rb rl = (0, j, ra, rs, rb, rl) := by simp [rst]
    rw [e]
    exact c_doJump8 t j hte hen hj hl hk
  by_cases d6 : d = 6
  · subst d6
    have e : rst tn fb 6 v x j t ra rs rb rl = (0, t + 1, ra, rs, rb, rl) := by simp [rst]
    rw [e]
    exact c_doEndIf t j hte hen hj hl hk
  by_cases h0 : (sim tn fb d v x ra).1 = 0
  · have e : rst tn fb d v x j t ra rs rb rl = (0, t + 1, (sim tn fb d v x ra).2, rs + 1, rb, rl) := by simp [rst, d4, d7, d5, d8, d6, h0]
    rw [e] at hA2 ⊢
    exact c_doEntry0 tn fb t d v x hte hen hk (by omega) hv hx hx3 hA hob hf hs htg hfn h0 hA2
  · have e : rst tn fb d v x j t ra rs rb rl = ((sim tn fb d v x ra).1, t + 1, ra, rs, rb, rl) := by simp [rst, d4, d7, d5, d8, d6, h0]
    rw [e]
    dsimp only
    rw [if_neg h0, if_neg h0]
    exact c_doEntryF tn fb t d v x hte hen hk (by omega) hv hx hx3 hA hob hf hs htg hfn _ rfl h0

