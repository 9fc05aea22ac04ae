/-- a run's loop, of at most m turns: fault, place, steps, what is held, bits, how many -/
def rrun (tn : Nat → Nat) (fb : Nat → Bool) (ki nu fi se ju : Nat → Int32) (sm en : Nat) : Nat → Nat → Nat → Nat → Int32 → Nat → Nat × Int32 × Nat × Nat × Int32 × Nat
  | 0, _, A, rs, rb, rl => (leav fb A 4 0, if leav fb A 4 0 = 0 then -1 else nI sm, rs, A, rb, rl)
  | m + 1, t, A, rs, rb, rl => if t < en then (if (rstA tn fb ki fi se ju t A rs rb rl).1 = 0 then rrun tn fb ki nu fi se ju sm en m (rstA tn fb ki fi se ju t A rs rb rl).2.1 (rstA tn fb ki fi se ju t A rs rb rl).2.2.1 (rstA tn fb ki fi se ju t A rs rb rl).2.2.2.1 (rstA tn fb ki fi se ju t A rs rb rl).2.2.2.2.1 (rstA tn fb ki fi se ju t A rs rb rl).2.2.2.2.2 else ((rstA tn fb ki fi se ju t A rs rb rl).1, nu t, (rstA tn fb ki fi se ju t A rs rb rl).2.2.2.1, (rstA tn fb ki fi se ju t A rs rb rl).2.2.1, (rstA tn fb ki fi se ju t A rs rb rl).2.2.2.2.1, (rstA tn fb ki fi se ju t A rs rb rl).2.2.2.2.2)) else (leav fb A 4 0, if leav fb A 4 0 = 0 then -1 else nI sm, rs, A, rb, rl)

set_option maxRecDepth 100000 in
set_option maxHeartbeats 4000000 in
theorem c_runProgram {D : va_G} {cI cZ cJ : ClassId} {l : Launch} {ad : Nat → Nat} {tg : Nat → Int32} {fn : Nat → Int32} {ki : Nat → Int32} {nu : Nat → Int32} {fi : Nat → Int32} {se : Nat → Int32} {ju : Nat → Int32} {op : Nat → Int32} {en : Nat} {sm : Nat} {ob : Nat} {be : Nat → Int32} {af : Nat → Int32} {pl : Int32} {rf : Int32} {rp : Int32} {rs : Nat} {ra : Nat} {rb : Int32} {rl : Nat} (tn : Nat → Nat) (fb : Nat → Bool) (J : Nat → Nat → Nat → Int32 → Nat → Prop) (htg : ∀ i, i < 96 → tg i = oI (tn i) ∧ tn i ≤ 5) (hfn : ∀ o, o < 24 → fn o = bI (fb o)) (hen : en ≤ 120) (hJ : ∀ t A rs rb rl, t < en → J t A rs rb rl → SafR ki fi se ju t A rl ∧ (rstA tn fb ki fi se ju t A rs rb rl).2.2.1 < 2 ^ 20 ∧ ((rstA tn fb ki fi se ju t A rs rb rl).1 = 0 → J (rstA tn fb ki fi se ju t A rs rb rl).2.1 (rstA tn fb ki fi se ju t A rs rb rl).2.2.1 (rstA tn fb ki fi se ju t A rs rb rl).2.2.2.1 (rstA tn fb ki fi se ju t A rs rb rl).2.2.2.2.1 (rstA tn fb ki fi se ju t A rs rb rl).2.2.2.2.2)) (hJe : ∀ t A rs rb rl, J t A rs rb rl → t ≤ 120 ∧ A < 2 ^ 20 ∧ ∀ v, v < 4 → hb A v ≤ 24) (b : Int32) (n : Nat) (hJ0 : J 0 0 0 b n) : KM D (tyL cI cZ cJ) l yX3_runProgram wsX3_runProgram 5 113 [.ref (ad 14), .int b, .int (nI n)] (wC ad cI cZ tg fn ki nu fi se ju op en sm ob be af pl rf rp rs ra rb rl) none (wC ad cI cZ tg fn ki nu fi se ju op en sm ob be af pl (nI (rrun tn fb ki nu fi se ju sm en 1000000 0 0 0 b n).1) ((rrun tn fb ki nu fi se ju sm en 1000000 0 0 0 b n).2.1) ((rrun tn fb ki nu fi se ju sm en 1000000 0 0 0 b n).2.2.1) ((rrun tn fb ki nu fi se ju sm en 1000000 0 0 0 b n).2.2.2.1) ((rrun tn fb ki nu fi se ju sm en 1000000 0 0 0 b n).2.2.2.2.1) ((rrun tn fb ki nu fi se ju sm en 1000000 0 0 0 b n).2.2.2.2.2)) := by
  refine KM.of (cc := cX3_runProgram) (nL := 5) (ret := none) (by decide +kernel) rfl (Nat.le_of_ble_eq_true rfl) ?_
  have i1 : ∀ w ∈ u_ws RX1 TX1 9, w ∈ wsX3_runProgram := by decide +kernel
  have i3 : ∀ w ∈ u_ws RX3 TX3 8, w ∈ wsX3_runProgram := by decide +kernel
  have fin : ∀ (R : Nat × Int32 × Nat × Nat × Int32 × Nat) (A rs1 : Nat) (rb1 : Int32) (rl1 : Nat), A < 2 ^ 20 → (∀ v, v < 4 → hb A v ≤ 24) → (leav fb A 4 0, (if leav fb A 4 0 = 0 then (-1 : Int32) else nI sm), rs1, A, rb1, rl1) = R → V (xM D (tyL cI cZ cJ) l 5 113 (wC ad cI cZ tg fn ki nu fi se ju op en sm ob be af pl rf rp rs ra rb rl) none (wC ad cI cZ tg fn ki nu fi se ju op en sm ob be af pl (nI R.1) R.2.1 R.2.2.1 R.2.2.2.1 R.2.2.2.2.1 R.2.2.2.2.2)) (cX3_runProgram, wsX3_runProgram, yX3_runProgram.cls, 5, none, yX3_runProgram.name) 0 0 (wC ad cI cZ tg fn ki nu fi se ju op en sm ob be af pl (nI 0) (-1) rs1 A rb1 rl1) 73 [(0, .ref (ad 14))] [] := by
    intro R A rs1 rb1 rl1 hEA hEo hres
    refine v_aload_n 74 rfl dX3_runProgram_73 rfl rfl ?_
    refine v_aload_n 75 rfl dX3_runProgram_74 rfl rfl ?_
    refine v_get (ci := 3) (C := RX3) (T := TX3) (N := 8) (v := .ref (ad 1)) 78 rfl 14 1 dX3_runProgram_75 rfl (Nat.le_of_ble_eq_true rfl) i3 (by decide +kernel) rfl rfl ?_
    refine v_aload_n 79 rfl dX3_runProgram_78 rfl rfl ?_
    refine v_get (ci := 3) (C := RX3) (T := TX3) (N := 8) (v := .int (nI A)) 82 rfl 14 5 dX3_runProgram_79 rfl (Nat.le_of_ble_eq_true rfl) i3 (by decide +kernel) rfl rfl ?_
    refine v_callF (n := 1) (q0 := 1) (ci := 2) 85 rfl (c_faultOfLeaving fb A hEA hfn hEo) gX3_runProgram_X2_faultOfLeaving rfl (by decide +kernel) rfl ⟨(Nat.le_of_ble_eq_true rfl), (Nat.le_of_ble_eq_true rfl)⟩ rfl (Nat.le_of_ble_eq_true rfl) rfl rfl rfl dX3_runProgram_82 ⟨Nat.zero_le _, Nat.zero_le _⟩ rfl ?_
    refine v_st (st' := [.int (nI (leav fb A 4 0)), .ref (ad 14)]) rfl ?_
    refine v_put (ci := 3) (C := RX3) (T := TX3) (ty0 := tyX3) (N := 8) (ty := .int) (w' := wC ad cI cZ tg fn ki nu fi se ju op en sm ob be af pl (nI (leav fb A 4 0)) (-1) rs1 A rb1 rl1) 88 rfl 14 2 dX3_runProgram_85 rfl (Nat.le_of_ble_eq_true rfl) i3 tyX3_ok nmX3 (by decide +kernel) rfl (by decide +kernel) rfl rfl rfl (Nat.le_of_ble_eq_true rfl) rfl ?_
    refine v_aload_n 89 rfl dX3_runProgram_88 rfl rfl ?_
    refine v_get (ci := 3) (C := RX3) (T := TX3) (N := 8) (v := .int (nI (leav fb A 4 0))) 92 rfl 14 2 dX3_runProgram_89 rfl (Nat.le_of_ble_eq_true rfl) i3 (by decide +kernel) rfl rfl ?_
    refine v_if_eqN (a := leav fb A 4 0) 106 95 rfl dX3_runProgram_92 (by decide) (by have := leav_v fb A 4 0; omega) (fun c92 => ?_) (fun c92 => ?_)
    · exact v_vret dX3_runProgram_106 rfl rfl (by rw [← hres]; simp [*]; try omega)
    · refine v_aload_n 96 rfl dX3_runProgram_95 rfl rfl ?_
      refine v_aload_n 97 rfl dX3_runProgram_96 rfl rfl ?_
      refine v_get (ci := 3) (C := RX3) (T := TX3) (N := 8) (v := .ref (ad 4)) 100 rfl 14 0 dX3_runProgram_97 rfl (Nat.le_of_ble_eq_true rfl) i3 (by decide +kernel) rfl rfl ?_
      refine v_getN (ci := 1) (C := RX1) (T := TX1) (N := 9) (v := .int (nI sm)) 103 rfl 4 7 dX3_runProgram_100 rfl (Nat.le_of_ble_eq_true rfl) i1 (by decide +kernel) rfl rfl ?_
      refine v_put (ci := 3) (C := RX3) (T := TX3) (ty0 := tyX3) (N := 8) (ty := .int) (w' := wC ad cI cZ tg fn ki nu fi se ju op en sm ob be af pl (nI (leav fb A 4 0)) (nI sm) rs1 A rb1 rl1) 106 rfl 14 3 dX3_runProgram_103 rfl (Nat.le_of_ble_eq_true rfl) i3 tyX3_ok nmX3 (by decide +kernel) rfl (by decide +kernel) rfl rfl rfl (Nat.le_of_ble_eq_true rfl) rfl ?_
      exact v_vret dX3_runProgram_106 rfl rfl (by rw [← hres]; simp [*]; try omega)
  have loop : ∀ (R : Nat × Int32 × Nat × Nat × Int32 × Nat) (m tu t A rs1 : Nat) (rb1 : Int32) (rl1 : Nat), tu + m = 1000000 → J t A rs1 rb1 rl1 → rrun tn fb ki nu fi se ju sm en m t A rs1 rb1 rl1 = R → V (xM D (tyL cI cZ cJ) l 5 113 (wC ad cI cZ tg fn ki nu fi se ju op en sm ob be af pl rf rp rs ra rb rl) none (wC ad cI cZ tg fn ki nu fi se ju op en sm ob be af pl (nI R.1) R.2.1 R.2.2.1 R.2.2.2.1 R.2.2.2.2.1 R.2.2.2.2.2)) (cX3_runProgram, wsX3_runProgram, yX3_runProgram.cls, 5, none, yX3_runProgram.name) 0 0 (wC ad cI cZ tg fn ki nu fi se ju op en sm ob be af pl (nI 0) (-1) rs1 A rb1 rl1) 35 [(4, .int (nI tu)), (3, .int (nI t)), (0, .ref (ad 14))] [] := by
    intro R m
    induction m with
    | zero =>
      intro tu t A rs1 rb1 rl1 hm hJt hres
      obtain ⟨htl, hEA, hEo⟩ := hJe _ _ _ _ _ hJt
      refine v_iload 37 rfl dX3_runProgram_35 rfl ?_
      refine v_ldc (v := nI 1000000) 39 rfl dX3_runProgram_37 (by decide +kernel) ?_
      refine v_icmp_geN (a := tu) (b := 1000000) 73 42 rfl dX3_runProgram_39 (by decide) (by omega) (by omega) (fun c39 => ?_) (fun q => False.elim (by omega))
      refine v_lv [2] rfl ?_
      exact fin R A rs1 rb1 rl1 hEA hEo hres
    | succ m ih =>
      intro tu t A rs1 rb1 rl1 hm hJt hres
      obtain ⟨htl, hEA, hEo⟩ := hJe _ _ _ _ _ hJt
      rcases Nat.lt_or_ge t en with hte | hte
      · have hu := (hJ t A rs1 rb1 rl1 hte hJt).2.1
        refine v_iload 37 rfl dX3_runProgram_35 rfl ?_
        refine v_ldc (v := nI 1000000) 39 rfl dX3_runProgram_37 (by decide +kernel) ?_
        refine v_icmp_geN (a := tu) (b := 1000000) 73 42 rfl dX3_runProgram_39 (by decide) (by omega) (by omega) (fun q => False.elim (by omega)) (fun c39 => ?_)
        refine v_aload_n 43 rfl dX3_runProgram_42 rfl rfl ?_
        refine v_get (ci := 3) (C := RX3) (T := TX3) (N := 8) (v := .ref (ad 4)) 46 rfl 14 0 dX3_runProgram_43 rfl (Nat.le_of_ble_eq_true rfl) i3 (by decide +kernel) rfl rfl ?_
        refine v_iload_n 47 rfl dX3_runProgram_46 rfl rfl ?_
        refine v_callF (n := 1) (q0 := 4) (ci := 1) 50 rfl (c_hasEntryT t (by omega) (by omega)) gX3_runProgram_X1_hasEntry rfl (by decide +kernel) rfl ⟨(Nat.le_of_ble_eq_true rfl), (Nat.le_of_ble_eq_true rfl)⟩ rfl (Nat.le_of_ble_eq_true rfl) rfl rfl rfl dX3_runProgram_47 ⟨Nat.zero_le _, Nat.zero_le _⟩ rfl ?_
        refine v_st (st' := [.int (bI true)]) rfl ?_
        refine v_if_eqB (b := true) 73 53 rfl dX3_runProgram_50 (by decide) (fun q => False.elim (by cases q)) (fun c50 => ?_)
        refine v_aload_n 54 rfl dX3_runProgram_53 rfl rfl ?_
        refine v_iload_n 55 rfl dX3_runProgram_54 rfl rfl ?_
        refine v_callF (n := 1) (q0 := 14) (ci := 3) 58 rfl (c_doEntry tn fb t hte hen (hJ t A rs1 rb1 rl1 hte hJt).1 htg hfn (hJ t A rs1 rb1 rl1 hte hJt).2.1) gX3_runProgram_X3_doEntry rfl (by decide +kernel) rfl ⟨(Nat.le_of_ble_eq_true rfl), (Nat.le_of_ble_eq_true rfl)⟩ rfl (Nat.le_of_ble_eq_true rfl) rfl rfl rfl dX3_runProgram_55 ⟨Nat.zero_le _, Nat.zero_le _⟩ rfl ?_
        refine v_st (st' := [.int (nI ((rstA tn fb ki fi se ju t A rs1 rb1 rl1).2.1))]) rfl ?_
        refine v_istore_n (lv' := [(3, .int (nI ((rstA tn fb ki fi se ju t A rs1 rb1 rl1).2.1))), (4, .int (nI tu)), (0, .ref (ad 14))]) 59 rfl dX3_runProgram_58 rfl (Nat.le_of_ble_eq_true rfl) rfl ?_
        by_cases h0 : (rstA tn fb ki fi se ju t A rs1 rb1 rl1).1 = 0
        · have hnx := hJe _ _ _ _ _ ((hJ t A rs1 rb1 rl1 hte hJt).2.2 h0)
          refine v_w (w' := wC ad cI cZ tg fn ki nu fi se ju op en sm ob be af pl (nI 0) (-1) ((rstA tn fb ki fi se ju t A rs1 rb1 rl1).2.2.2.1) ((rstA tn fb ki fi se ju t A rs1 rb1 rl1).2.2.1) ((rstA tn fb ki fi se ju t A rs1 rb1 rl1).2.2.2.2.1) ((rstA tn fb ki fi se ju t A rs1 rb1 rl1).2.2.2.2.2)) (by rw [if_pos h0, if_pos h0]) ?_
          refine v_aload_n 60 rfl dX3_runProgram_59 rfl rfl ?_
          refine v_get (ci := 3) (C := RX3) (T := TX3) (N := 8) (v := .int (nI 0)) 63 rfl 14 2 dX3_runProgram_60 rfl (Nat.le_of_ble_eq_true rfl) i3 (by decide +kernel) rfl rfl ?_
          refine v_if_eqN (a := 0) 67 66 rfl dX3_runProgram_63 (by decide) (by omega) (fun c63 => ?_) (fun q => False.elim (by omega))
          refine v_iinc (v := nI (tu + 1)) (lv' := [(4, .int (nI (tu + 1))), (3, .int (nI ((rstA tn fb ki fi se ju t A rs1 rb1 rl1).2.1))), (0, .ref (ad 14))]) 70 rfl dX3_runProgram_67 1 rfl (nI_add _ _) (Nat.le_of_ble_eq_true rfl) rfl ?_
          refine v_goto 35 dX3_runProgram_70 (by decide) ?_
          refine v_lv [0, 1, 2] rfl ?_
          exact ih (tu + 1) _ _ _ _ _ (by omega) ((hJ t A rs1 rb1 rl1 hte hJt).2.2 h0) (by rw [← hres]; simp [rrun, hte, h0])
        · refine v_w (w' := wC ad cI cZ tg fn ki nu fi se ju op en sm ob be af pl (nI (rstA tn fb ki fi se ju t A rs1 rb1 rl1).1) (nu t) ((rstA tn fb ki fi se ju t A rs1 rb1 rl1).2.2.2.1) ((rstA tn fb ki fi se ju t A rs1 rb1 rl1).2.2.1) ((rstA tn fb ki fi se ju t A rs1 rb1 rl1).2.2.2.2.1) ((rstA tn fb ki fi se ju t A rs1 rb1 rl1).2.2.2.2.2)) (by rw [if_neg h0, if_neg h0]) ?_
          refine v_aload_n 60 rfl dX3_runProgram_59 rfl rfl ?_
          refine v_get (ci := 3) (C := RX3) (T := TX3) (N := 8) (v := .int (nI ((rstA tn fb ki fi se ju t A rs1 rb1 rl1).1))) 63 rfl 14 2 dX3_runProgram_60 rfl (Nat.le_of_ble_eq_true rfl) i3 (by decide +kernel) rfl rfl ?_
          refine v_if_eqN (a := (rstA tn fb ki fi se ju t A rs1 rb1 rl1).1) 67 66 rfl dX3_runProgram_63 (by decide) (by have := rstA_lt tn fb ki fi se ju t A rs1 rb1 rl1; omega) (fun q => False.elim (by omega)) (fun c63 => ?_)
          exact v_vret dX3_runProgram_66 rfl rfl (by rw [← hres]; simp [rrun, hte, h0])
      · skip
        refine v_iload 37 rfl dX3_runProgram_35 rfl ?_
        refine v_ldc (v := nI 1000000) 39 rfl dX3_runProgram_37 (by decide +kernel) ?_
        refine v_icmp_geN (a := tu) (b := 1000000) 73 42 rfl dX3_runProgram_39 (by decide) (by omega) (by omega) (fun q => False.elim (by omega)) (fun c39 => ?_)
        refine v_aload_n 43 rfl dX3_runProgram_42 rfl rfl ?_
        refine v_get (ci := 3) (C := RX3) (T := TX3) (N := 8) (v := .ref (ad 4)) 46 rfl 14 0 dX3_runProgram_43 rfl (Nat.le_of_ble_eq_true rfl) i3 (by decide +kernel) rfl rfl ?_
        refine v_iload_n 47 rfl dX3_runProgram_46 rfl rfl ?_
        refine v_callF (n := 1) (q0 := 4) (ci := 1) 50 rfl (c_hasEntryF t (by omega) (by omega)) gX3_runProgram_X1_hasEntry rfl (by decide +kernel) rfl ⟨(Nat.le_of_ble_eq_true rfl), (Nat.le_of_ble_eq_true rfl)⟩ rfl (Nat.le_of_ble_eq_true rfl) rfl rfl rfl dX3_runProgram_47 ⟨Nat.zero_le _, Nat.zero_le _⟩ rfl ?_
        refine v_st (st' := [.int (bI false)]) rfl ?_
        refine v_if_eqB (b := false) 73 53 rfl dX3_runProgram_50 (by decide) (fun c50 => ?_) (fun q => False.elim (by cases q))
        refine v_lv [2] rfl ?_
        exact fin R A rs1 rb1 rl1 hEA hEo (by rw [← hres]; simp [rrun, show ¬ t < en by omega])
  refine v_aload_n 1 rfl dX3_runProgram_0 rfl rfl ?_
  refine v_iconst (v := nI 0) 2 rfl dX3_runProgram_1 (by decide) ?_
  refine v_put (ci := 3) (C := RX3) (T := TX3) (ty0 := tyX3) (N := 8) (ty := .int) (w' := wC ad cI cZ tg fn ki nu fi se ju op en sm ob be af pl (nI 0) rp rs ra rb rl) 5 rfl 14 2 dX3_runProgram_2 rfl (Nat.le_of_ble_eq_true rfl) i3 tyX3_ok nmX3 (by decide +kernel) rfl (by decide +kernel) rfl rfl rfl (Nat.le_of_ble_eq_true rfl) rfl ?_
  refine v_aload_n 6 rfl dX3_runProgram_5 rfl rfl ?_
  refine v_iconst (v := -1) 7 rfl dX3_runProgram_6 (by decide) ?_
  refine v_put (ci := 3) (C := RX3) (T := TX3) (ty0 := tyX3) (N := 8) (ty := .int) (w' := wC ad cI cZ tg fn ki nu fi se ju op en sm ob be af pl (nI 0) (-1) rs ra rb rl) 10 rfl 14 3 dX3_runProgram_7 rfl (Nat.le_of_ble_eq_true rfl) i3 tyX3_ok nmX3 (by decide +kernel) rfl (by decide +kernel) rfl rfl rfl (Nat.le_of_ble_eq_true rfl) rfl ?_
  refine v_aload_n 11 rfl dX3_runProgram_10 rfl rfl ?_
  refine v_iconst (v := nI 0) 12 rfl dX3_runProgram_11 (by decide) ?_
  refine v_put (ci := 3) (C := RX3) (T := TX3) (ty0 := tyX3) (N := 8) (ty := .int) (w' := wC ad cI cZ tg fn ki nu fi se ju op en sm ob be af pl (nI 0) (-1) 0 ra rb rl) 15 rfl 14 4 dX3_runProgram_12 rfl (Nat.le_of_ble_eq_true rfl) i3 tyX3_ok nmX3 (by decide +kernel) rfl (by decide +kernel) rfl rfl rfl (Nat.le_of_ble_eq_true rfl) rfl ?_
  refine v_aload_n 16 rfl dX3_runProgram_15 rfl rfl ?_
  refine v_iconst (v := nI 0) 17 rfl dX3_runProgram_16 (by decide) ?_
  refine v_put (ci := 3) (C := RX3) (T := TX3) (ty0 := tyX3) (N := 8) (ty := .int) (w' := wC ad cI cZ tg fn ki nu fi se ju op en sm ob be af pl (nI 0) (-1) 0 0 rb rl) 20 rfl 14 5 dX3_runProgram_17 rfl (Nat.le_of_ble_eq_true rfl) i3 tyX3_ok nmX3 (by decide +kernel) rfl (by decide +kernel) rfl rfl rfl (Nat.le_of_ble_eq_true rfl) rfl ?_
  refine v_aload_n 21 rfl dX3_runProgram_20 rfl rfl ?_
  refine v_iload_n 22 rfl dX3_runProgram_21 rfl rfl ?_
  refine v_put (ci := 3) (C := RX3) (T := TX3) (ty0 := tyX3) (N := 8) (ty := .int) (w' := wC ad cI cZ tg fn ki nu fi se ju op en sm ob be af pl (nI 0) (-1) 0 0 b rl) 25 rfl 14 6 dX3_runProgram_22 rfl (Nat.le_of_ble_eq_true rfl) i3 tyX3_ok nmX3 (by decide +kernel) rfl (by decide +kernel) rfl rfl rfl (Nat.le_of_ble_eq_true rfl) rfl ?_
  refine v_aload_n 26 rfl dX3_runProgram_25 rfl rfl ?_
  refine v_iload_n 27 rfl dX3_runProgram_26 rfl rfl ?_
  refine v_put (ci := 3) (C := RX3) (T := TX3) (ty0 := tyX3) (N := 8) (ty := .int) (w' := wC ad cI cZ tg fn ki nu fi se ju op en sm ob be af pl (nI 0) (-1) 0 0 b n) 30 rfl 14 7 dX3_runProgram_27 rfl (Nat.le_of_ble_eq_true rfl) i3 tyX3_ok nmX3 (by decide +kernel) rfl (by decide +kernel) rfl rfl rfl (Nat.le_of_ble_eq_true rfl) rfl ?_
  refine v_iconst (v := nI 0) 31 rfl dX3_runProgram_30 (by decide) ?_
  refine v_istore_n (lv' := [(3, .int (nI 0)), (0, .ref (ad 14)), (1, .int b), (2, .int (nI n))]) 32 rfl dX3_runProgram_31 rfl (Nat.le_of_ble_eq_true rfl) rfl ?_
  refine v_iconst (v := nI 0) 33 rfl dX3_runProgram_32 (by decide) ?_
  refine v_istore (lv' := [(4, .int (nI 0)), (3, .int (nI 0)), (0, .ref (ad 14)), (1, .int b), (2, .int (nI n))]) 35 rfl dX3_runProgram_33 (Nat.le_of_ble_eq_true rfl) rfl ?_
  refine v_lv [0, 1, 2] rfl ?_
  exact loop _ 1000000 0 0 0 0 _ _ rfl hJ0 rfl

set_option maxRecDepth 100000 in
set_option maxHeartbeats 4000000 in
theorem c_leadM {D : va_G} {cI cZ cJ : ClassId} {l : Launch} {ad : Nat → Nat} {tg : Nat → Int32} {fn : Nat → Int32} {ki : Nat → Int32} {nu : Nat → Int32} {fi : Nat → Int32} {se : Nat → Int32} {ju : Nat → Int32} {op : Nat → Int32} {en : Nat} {sm : Nat} {ob : Nat} {be : Nat → Int32} {af : Nat → Int32} {pl : Int32} {rf : Int32} {rp : Int32} {rs : Nat} {ra : Nat} {rb : Int32} {rl : Nat} (p s e : Nat) (hp : p < 3) (hs : s < 5) (he : e < 4) : KM D (tyL cI cZ cJ) l yX4_lead wsX4_lead 2 45 [.ref (ad 0), .int (nI p), .int (nI s), .int (nI e), .int (-1)] (wC ad cI cZ tg fn ki nu fi se ju op en sm ob be af pl rf rp rs ra rb rl) (some (.int (bI true))) (wC ad cI cZ (upd tg ((8 * p + s) * 4 + e) (-1)) fn ki nu fi se ju op en sm ob be af pl rf rp rs ra rb rl) := by
  refine KM.of (cc := cX4_lead) (nL := 6) (ret := (some .boolean)) (by decide +kernel) rfl (Nat.le_of_ble_eq_true rfl) ?_
  have i4 : ∀ w ∈ u_ws RX4 TX4 4, w ∈ wsX4_lead := by decide +kernel
  refine v_iload_n 1 rfl dX4_lead_0 rfl rfl ?_
  refine v_iload_n 2 rfl dX4_lead_1 rfl rfl ?_
  refine v_callS (n := 2) 5 rfl (c_isStateT p s (by omega) (by omega)) gX4_lead_X4_isState rfl (by decide +kernel) rfl ⟨(Nat.le_of_ble_eq_true rfl), (Nat.le_of_ble_eq_true rfl)⟩ rfl (Nat.le_of_ble_eq_true rfl) dX4_lead_2 ⟨Nat.zero_le _, Nat.zero_le _⟩ ?_
  refine v_st (st' := [.int (bI true)]) rfl ?_
  refine v_if_eqB (b := true) 35 8 rfl dX4_lead_5 (by decide) (fun q => False.elim (by cases q)) (fun c5 => ?_)
  refine v_iload_n 9 rfl dX4_lead_8 rfl rfl ?_
  refine v_iconst (v := nI 4) 10 rfl dX4_lead_9 (by decide) ?_
  refine v_callS (n := 2) 13 rfl (c_isBelowT e 4 (by omega) (by omega)) gX4_lead_X4_isBelow rfl (by decide +kernel) rfl ⟨(Nat.le_of_ble_eq_true rfl), (Nat.le_of_ble_eq_true rfl)⟩ rfl (Nat.le_of_ble_eq_true rfl) dX4_lead_10 ⟨Nat.zero_le _, Nat.zero_le _⟩ ?_
  refine v_st (st' := [.int (bI true)]) rfl ?_
  refine v_if_eqB (b := true) 35 16 rfl dX4_lead_13 (by decide) (fun q => False.elim (by cases q)) (fun c13 => ?_)
  refine v_iload 18 rfl dX4_lead_16 rfl ?_
  refine v_iconst (v := -1) 19 rfl dX4_lead_18 (by decide) ?_
  refine v_icmp_eq 31 22 rfl dX4_lead_19 (by decide) (fun c19 => ?_) (fun q => False.elim (by exact absurd rfl q))
  refine v_iconst (v := bI true) 32 rfl dX4_lead_31 (by decide) ?_
  refine v_goto 36 dX4_lead_32 (by decide) ?_
  refine v_istore (lv' := [(5, .int (bI true)), (0, .ref (ad 0)), (1, .int (nI p)), (2, .int (nI s)), (3, .int (nI e)), (4, .int (-1))]) 38 rfl dX4_lead_36 (Nat.le_of_ble_eq_true rfl) rfl ?_
  refine v_iload 40 rfl dX4_lead_38 rfl ?_
  refine v_if_eqB (b := true) 65 43 rfl dX4_lead_40 (by decide) (fun q => False.elim (by cases q)) (fun c40 => ?_)
  refine v_aload_n 44 rfl dX4_lead_43 rfl rfl ?_
  refine v_get (ci := 4) (C := RX4) (T := TX4) (N := 4) (v := .ref (ad 1)) 47 rfl 0 0 dX4_lead_44 rfl (Nat.le_of_ble_eq_true rfl) i4 (by decide +kernel) rfl rfl ?_
  refine v_iload_n 48 rfl dX4_lead_47 rfl rfl ?_
  refine v_iload_n 49 rfl dX4_lead_48 rfl rfl ?_
  refine v_callS (n := 2) 52 rfl (c_objectOf p s) gX4_lead_X4_objectOf rfl (by decide +kernel) rfl ⟨(Nat.le_of_ble_eq_true rfl), (Nat.le_of_ble_eq_true rfl)⟩ rfl (Nat.le_of_ble_eq_true rfl) dX4_lead_49 ⟨Nat.zero_le _, Nat.zero_le _⟩ ?_
  refine v_st (st' := [.int (nI (8 * p + s)), .ref (ad 1)]) rfl ?_
  refine v_iload_n 53 rfl dX4_lead_52 rfl rfl ?_
  refine v_iload 55 rfl dX4_lead_53 rfl ?_
  refine v_callF (n := 3) (q0 := 1) (ci := 2) 58 rfl (c_setTarget (8 * p + s) e (-1) (by omega) (by omega)) gX4_lead_X2_setTarget rfl (by decide +kernel) rfl ⟨(Nat.le_of_ble_eq_true rfl), (Nat.le_of_ble_eq_true rfl)⟩ rfl (Nat.le_of_ble_eq_true rfl) rfl rfl rfl dX4_lead_55 ⟨Nat.zero_le _, Nat.zero_le _⟩ rfl ?_
  refine v_st (st' := [.int (bI true)]) rfl ?_
  refine v_if_eqB (b := true) 65 61 rfl dX4_lead_58 (by decide) (fun q => False.elim (by cases q)) (fun c58 => ?_)
  refine v_iconst (v := nI 1) 62 rfl dX4_lead_61 (by decide) ?_
  refine v_goto 66 dX4_lead_62 (by decide) ?_
  refine v_top (v' := bI true) (by decide) ?_
  exact v_zret dX4_lead_66 rfl rfl rfl

set_option maxRecDepth 100000 in
set_option maxHeartbeats 4000000 in
theorem c_leadN {D : va_G} {cI cZ cJ : ClassId} {l : Launch} {ad : Nat → Nat} {tg : Nat → Int32} {fn : Nat → Int32} {ki : Nat → Int32} {nu : Nat → Int32} {fi : Nat → Int32} {se : Nat → Int32} {ju : Nat → Int32} {op : Nat → Int32} {en : Nat} {sm : Nat} {ob : Nat} {be : Nat → Int32} {af : Nat → Int32} {pl : Int32} {rf : Int32} {rp : Int32} {rs : Nat} {ra : Nat} {rb : Int32} {rl : Nat} (p s e j : Nat) (hp : p < 3) (hs : s < 5) (he : e < 4) (hj : j < 5) : KM D (tyL cI cZ cJ) l yX4_lead wsX4_lead 2 45 [.ref (ad 0), .int (nI p), .int (nI s), .int (nI e), .int (nI j)] (wC ad cI cZ tg fn ki nu fi se ju op en sm ob be af pl rf rp rs ra rb rl) (some (.int (bI true))) (wC ad cI cZ (upd tg ((8 * p + s) * 4 + e) (nI j)) fn ki nu fi se ju op en sm ob be af pl rf rp rs ra rb rl) := by
  refine KM.of (cc := cX4_lead) (nL := 6) (ret := (some .boolean)) (by decide +kernel) rfl (Nat.le_of_ble_eq_true rfl) ?_
  have i4 : ∀ w ∈ u_ws RX4 TX4 4, w ∈ wsX4_lead := by decide +kernel
  refine v_iload_n 1 rfl dX4_lead_0 rfl rfl ?_
  refine v_iload_n 2 rfl dX4_lead_1 rfl rfl ?_
  refine v_callS (n := 2) 5 rfl (c_isStateT p s (by omega) (by omega)) gX4_lead_X4_isState rfl (by decide +kernel) rfl ⟨(Nat.le_of_ble_eq_true rfl), (Nat.le_of_ble_eq_true rfl)⟩ rfl (Nat.le_of_ble_eq_true rfl) dX4_lead_2 ⟨Nat.zero_le _, Nat.zero_le _⟩ ?_
  refine v_st (st' := [.int (bI true)]) rfl ?_
  refine v_if_eqB (b := true) 35 8 rfl dX4_lead_5 (by decide) (fun q => False.elim (by cases q)) (fun c5 => ?_)
  refine v_iload_n 9 rfl dX4_lead_8 rfl rfl ?_
  refine v_iconst (v := nI 4) 10 rfl dX4_lead_9 (by decide) ?_
  refine v_callS (n := 2) 13 rfl (c_isBelowT e 4 (by omega) (by omega)) gX4_lead_X4_isBelow rfl (by decide +kernel) rfl ⟨(Nat.le_of_ble_eq_true rfl), (Nat.le_of_ble_eq_true rfl)⟩ rfl (Nat.le_of_ble_eq_true rfl) dX4_lead_10 ⟨Nat.zero_le _, Nat.zero_le _⟩ ?_
  refine v_st (st' := [.int (bI true)]) rfl ?_
  refine v_if_eqB (b := true) 35 16 rfl dX4_lead_13 (by decide) (fun q => False.elim (by cases q)) (fun c13 => ?_)
  refine v_iload 18 rfl dX4_lead_16 rfl ?_
  refine v_iconst (v := -1) 19 rfl dX4_lead_18 (by decide) ?_
  refine v_icmp_eq 31 22 rfl dX4_lead_19 (by decide) (fun q => False.elim (by exact absurd q (nI_ne_m1 (by omega)))) (fun c19 => ?_)
  refine v_iload 24 rfl dX4_lead_22 rfl ?_
  refine v_iconst (v := nI 5) 25 rfl dX4_lead_24 (by decide) ?_
  refine v_callS (n := 2) 28 rfl (c_isBelowT j 5 (by omega) (by omega)) gX4_lead_X4_isBelow rfl (by decide +kernel) rfl ⟨(Nat.le_of_ble_eq_true rfl), (Nat.le_of_ble_eq_true rfl)⟩ rfl (Nat.le_of_ble_eq_true rfl) dX4_lead_25 ⟨Nat.zero_le _, Nat.zero_le _⟩ ?_
  refine v_st (st' := [.int (bI true)]) rfl ?_
  refine v_if_eqB (b := true) 35 31 rfl dX4_lead_28 (by decide) (fun q => False.elim (by cases q)) (fun c28 => ?_)
  refine v_iconst (v := bI true) 32 rfl dX4_lead_31 (by decide) ?_
  refine v_goto 36 dX4_lead_32 (by decide) ?_
  refine v_istore (lv' := [(5, .int (bI true)), (0, .ref (ad 0)), (1, .int (nI p)), (2, .int (nI s)), (3, .int (nI e)), (4, .int (nI j))]) 38 rfl dX4_lead_36 (Nat.le_of_ble_eq_true rfl) rfl ?_
  refine v_iload 40 rfl dX4_lead_38 rfl ?_
  refine v_if_eqB (b := true) 65 43 rfl dX4_lead_40 (by decide) (fun q => False.elim (by cases q)) (fun c40 => ?_)
  refine v_aload_n 44 rfl dX4_lead_43 rfl rfl ?_
  refine v_get (ci := 4) (C := RX4) (T := TX4) (N := 4) (v := .ref (ad 1)) 47 rfl 0 0 dX4_lead_44 rfl (Nat.le_of_ble_eq_true rfl) i4 (by decide +kernel) rfl rfl ?_
  refine v_iload_n 48 rfl dX4_lead_47 rfl rfl ?_
  refine v_iload_n 49 rfl dX4_lead_48 rfl rfl ?_
  refine v_callS (n := 2) 52 rfl (c_objectOf p s) gX4_lead_X4_objectOf rfl (by decide +kernel) rfl ⟨(Nat.le_of_ble_eq_true rfl), (Nat.le_of_ble_eq_true rfl)⟩ rfl (Nat.le_of_ble_eq_true rfl) dX4_lead_49 ⟨Nat.zero_le _, Nat.zero_le _⟩ ?_
  refine v_st (st' := [.int (nI (8 * p + s)), .ref (ad 1)]) rfl ?_
  refine v_iload_n 53 rfl dX4_lead_52 rfl rfl ?_
  refine v_iload 55 rfl dX4_lead_53 rfl ?_
  refine v_callF (n := 3) (q0 := 1) (ci := 2) 58 rfl (c_setTarget (8 * p + s) e (nI j) (by omega) (by omega)) gX4_lead_X2_setTarget rfl (by decide +kernel) rfl ⟨(Nat.le_of_ble_eq_true rfl), (Nat.le_of_ble_eq_true rfl)⟩ rfl (Nat.le_of_ble_eq_true rfl) rfl rfl rfl dX4_lead_55 ⟨Nat.zero_le _, Nat.zero_le _⟩ rfl ?_
  refine v_st (st' := [.int (bI true)]) rfl ?_
  refine v_if_eqB (b := true) 65 61 rfl dX4_lead_58 (by decide) (fun q => False.elim (by cases q)) (fun c58 => ?_)
  refine v_iconst (v := nI 1) 62 rfl dX4_lead_61 (by decide) ?_
  refine v_goto 66 dX4_lead_62 (by decide) ?_
  refine v_top (v' := bI true) (by decide) ?_
  exact v_zret dX4_lead_66 rfl rfl rfl

set_option maxRecDepth 100000 in
set_option maxHeartbeats 4000000 in
theorem c_leadNo {D : va_G} {cI cZ cJ : ClassId} {l : Launch} {ad : Nat → Nat} {tg : Nat → Int32} {fn : Nat → Int32} {ki : Nat → Int32} {nu : Nat → Int32} {fi : Nat → Int32} {se : Nat → Int32} {ju : Nat → Int32} {op : Nat → Int32} {en : Nat} {sm : Nat} {ob : Nat} {be : Nat → Int32} {af : Nat → Int32} {pl : Int32} {rf : Int32} {rp : Int32} {rs : Nat} {ra : Nat} {rb : Int32} {rl : Nat} (p s e t : Int32) (h : ((bel p (nI 3) && bel s (nI 5)) && bel e (nI 4) && (decide (t = -1) || bel t (nI 5))) = false) : KM D (tyL cI cZ cJ) l yX4_lead wsX4_lead 2 42 [.ref (ad 0), .int p, .int s, .int e, .int t] (wC ad cI cZ tg fn ki nu fi se ju op en sm ob be af pl rf rp rs ra rb rl) (some (.int (bI false))) (wC ad cI cZ tg fn ki nu fi se ju op en sm ob be af pl rf rp rs ra rb rl) := by
  refine KM.of (cc := cX4_lead) (nL := 6) (ret := (some .boolean)) (by decide +kernel) rfl (Nat.le_of_ble_eq_true rfl) ?_
  refine v_iload_n 1 rfl dX4_lead_0 rfl rfl ?_
  refine v_iload_n 2 rfl dX4_lead_1 rfl rfl ?_
  refine v_callS (n := 2) 5 rfl (c_isState p s) gX4_lead_X4_isState rfl (by decide +kernel) rfl ⟨(Nat.le_of_ble_eq_true rfl), (Nat.le_of_ble_eq_true rfl)⟩ rfl (Nat.le_of_ble_eq_true rfl) dX4_lead_2 ⟨Nat.zero_le _, Nat.zero_le _⟩ ?_
  refine v_st (st' := [.int (bI (bel p (nI 3) && bel s (nI 5)))]) rfl ?_
  refine v_if_eqB (b := (bel p (nI 3) && bel s (nI 5))) 35 8 rfl dX4_lead_5 (by decide) (fun c5 => ?_) (fun c5 => ?_)
  · refine v_iconst (v := bI false) 36 rfl dX4_lead_35 (by decide) ?_
    refine v_istore (lv' := [(5, .int (bI false)), (0, .ref (ad 0)), (1, .int p), (2, .int s), (3, .int e), (4, .int t)]) 38 rfl dX4_lead_36 (Nat.le_of_ble_eq_true rfl) rfl ?_
    refine v_iload 40 rfl dX4_lead_38 rfl ?_
    refine v_if_eqB (b := false) 65 43 rfl dX4_lead_40 (by decide) (fun c40 => ?_) (fun q => False.elim (by cases q))
    refine v_iconst (v := nI 0) 66 rfl dX4_lead_65 (by decide) ?_
    refine v_top (v' := bI false) (by decide) ?_
    exact v_zret dX4_lead_66 rfl rfl rfl
  · refine v_iload_n 9 rfl dX4_lead_8 rfl rfl ?_
    refine v_iconst (v := nI 4) 10 rfl dX4_lead_9 (by decide) ?_
    refine v_callS (n := 2) 13 rfl (c_isBelow e (nI 4)) gX4_lead_X4_isBelow rfl (by decide +kernel) rfl ⟨(Nat.le_of_ble_eq_true rfl), (Nat.le_of_ble_eq_true rfl)⟩ rfl (Nat.le_of_ble_eq_true rfl) dX4_lead_10 ⟨Nat.zero_le _, Nat.zero_le _⟩ ?_
    refine v_st (st' := [.int (bI (bel e (nI 4)))]) rfl ?_
    refine v_if_eqB (b := bel e (nI 4)) 35 16 rfl dX4_lead_13 (by decide) (fun c13 => ?_) (fun c13 => ?_)
    · refine v_iconst (v := bI false) 36 rfl dX4_lead_35 (by decide) ?_
      refine v_istore (lv' := [(5, .int (bI false)), (0, .ref (ad 0)), (1, .int p), (2, .int s), (3, .int e), (4, .int t)]) 38 rfl dX4_lead_36 (Nat.le_of_ble_eq_true rfl) rfl ?_
      refine v_iload 40 rfl dX4_lead_38 rfl ?_
      refine v_if_eqB (b := false) 65 43 rfl dX4_lead_40 (by decide) (fun c40 => ?_) (fun q => False.elim (by cases q))
      refine v_iconst (v := nI 0) 66 rfl dX4_lead_65 (by decide) ?_
      refine v_top (v' := bI false) (by decide) ?_
      exact v_zret dX4_lead_66 rfl rfl rfl
    · refine v_iload 18 rfl dX4_lead_16 rfl ?_
      refine v_iconst (v := -1) 19 rfl dX4_lead_18 (by decide) ?_
      refine v_icmp_eq 31 22 rfl dX4_lead_19 (by decide) (fun c19 => ?_) (fun c19 => ?_)
      · exact absurd h (by simp [*])
      · refine v_iload 24 rfl dX4_lead_22 rfl ?_
        refine v_iconst (v := nI 5) 25 rfl dX4_lead_24 (by decide) ?_
        refine v_callS (n := 2) 28 rfl (c_isBelow t (nI 5)) gX4_lead_X4_isBelow rfl (by decide +kernel) rfl ⟨(Nat.le_of_ble_eq_true rfl), (Nat.le_of_ble_eq_true rfl)⟩ rfl (Nat.le_of_ble_eq_true rfl) dX4_lead_25 ⟨Nat.zero_le _, Nat.zero_le _⟩ ?_
        refine v_st (st' := [.int (bI (bel t (nI 5)))]) rfl ?_
        refine v_if_eqB (b := bel t (nI 5)) 35 31 rfl dX4_lead_28 (by decide) (fun c28 => ?_) (fun c28 => ?_)
        · refine v_iconst (v := bI false) 36 rfl dX4_lead_35 (by decide) ?_
          refine v_istore (lv' := [(5, .int (bI false)), (0, .ref (ad 0)), (1, .int p), (2, .int s), (3, .int e), (4, .int t)]) 38 rfl dX4_lead_36 (Nat.le_of_ble_eq_true rfl) rfl ?_
          refine v_iload 40 rfl dX4_lead_38 rfl ?_
          refine v_if_eqB (b := false) 65 43 rfl dX4_lead_40 (by decide) (fun c40 => ?_) (fun q => False.elim (by cases q))
          refine v_iconst (v := nI 0) 66 rfl dX4_lead_65 (by decide) ?_
          refine v_top (v' := bI false) (by decide) ?_
          exact v_zret dX4_lead_66 rfl rfl rfl
        · exact absurd h (by simp [*])

set_option maxRecDepth 100000 in
set_option maxHeartbeats 4000000 in
theorem c_mark {D : va_G} {cI cZ cJ : ClassId} {l : Launch} {ad : Nat → Nat} {tg : Nat → Int32} {fn : Nat → Int32} {ki : Nat → Int32} {nu : Nat → Int32} {fi : Nat → Int32} {se : Nat → Int32} {ju : Nat → Int32} {op : Nat → Int32} {en : Nat} {sm : Nat} {ob : Nat} {be : Nat → Int32} {af : Nat → Int32} {pl : Int32} {rf : Int32} {rp : Int32} {rs : Nat} {ra : Nat} {rb : Int32} {rl : Nat} (p s : Nat) (b : Bool) (hp : p < 3) (hs : s < 5) : KM D (tyL cI cZ cJ) l yX4_mark wsX4_mark 2 44 [.ref (ad 0), .int (nI p), .int (nI s), .int (bI b)] (wC ad cI cZ tg fn ki nu fi se ju op en sm ob be af pl rf rp rs ra rb rl) (some (.int (bI true))) (wC ad cI cZ tg (upd fn (8 * p + s) (bI b)) ki nu fi se ju op en sm ob be af pl rf rp rs ra rb rl) := by
  refine KM.of (cc := cX4_mark) (nL := 4) (ret := (some .boolean)) (by decide +kernel) rfl (Nat.le_of_ble_eq_true rfl) ?_
  have i4 : ∀ w ∈ u_ws RX4 TX4 4, w ∈ wsX4_mark := by decide +kernel
  refine v_iload_n 1 rfl dX4_mark_0 rfl rfl ?_
  refine v_iload_n 2 rfl dX4_mark_1 rfl rfl ?_
  refine v_callS (n := 2) 5 rfl (c_isStateT p s (by omega) (by omega)) gX4_mark_X4_isState rfl (by decide +kernel) rfl ⟨(Nat.le_of_ble_eq_true rfl), (Nat.le_of_ble_eq_true rfl)⟩ rfl (Nat.le_of_ble_eq_true rfl) dX4_mark_2 ⟨Nat.zero_le _, Nat.zero_le _⟩ ?_
  refine v_st (st' := [.int (bI true)]) rfl ?_
  refine v_if_eqB (b := true) 28 8 rfl dX4_mark_5 (by decide) (fun q => False.elim (by cases q)) (fun c5 => ?_)
  refine v_aload_n 9 rfl dX4_mark_8 rfl rfl ?_
  refine v_get (ci := 4) (C := RX4) (T := TX4) (N := 4) (v := .ref (ad 1)) 12 rfl 0 0 dX4_mark_9 rfl (Nat.le_of_ble_eq_true rfl) i4 (by decide +kernel) rfl rfl ?_
  refine v_iload_n 13 rfl dX4_mark_12 rfl rfl ?_
  refine v_iload_n 14 rfl dX4_mark_13 rfl rfl ?_
  refine v_callS (n := 2) 17 rfl (c_objectOf p s) gX4_mark_X4_objectOf rfl (by decide +kernel) rfl ⟨(Nat.le_of_ble_eq_true rfl), (Nat.le_of_ble_eq_true rfl)⟩ rfl (Nat.le_of_ble_eq_true rfl) dX4_mark_14 ⟨Nat.zero_le _, Nat.zero_le _⟩ ?_
  refine v_st (st' := [.int (nI (8 * p + s)), .ref (ad 1)]) rfl ?_
  refine v_iload_n 18 rfl dX4_mark_17 rfl rfl ?_
  refine v_callF (n := 2) (q0 := 1) (ci := 2) 21 rfl (c_setFinal (8 * p + s) b (by omega)) gX4_mark_X2_setFinal rfl (by decide +kernel) rfl ⟨(Nat.le_of_ble_eq_true rfl), (Nat.le_of_ble_eq_true rfl)⟩ rfl (Nat.le_of_ble_eq_true rfl) rfl rfl rfl dX4_mark_18 ⟨Nat.zero_le _, Nat.zero_le _⟩ rfl ?_
  refine v_st (st' := [.int (bI true)]) rfl ?_
  refine v_if_eqB (b := true) 28 24 rfl dX4_mark_21 (by decide) (fun q => False.elim (by cases q)) (fun c21 => ?_)
  refine v_iconst (v := nI 1) 25 rfl dX4_mark_24 (by decide) ?_
  refine v_goto 29 dX4_mark_25 (by decide) ?_
  refine v_top (v' := bI true) (by decide) ?_
  exact v_zret dX4_mark_29 rfl rfl rfl

set_option maxRecDepth 100000 in
set_option maxHeartbeats 4000000 in
theorem c_markNo {D : va_G} {cI cZ cJ : ClassId} {l : Launch} {ad : Nat → Nat} {tg : Nat → Int32} {fn : Nat → Int32} {ki : Nat → Int32} {nu : Nat → Int32} {fi : Nat → Int32} {se : Nat → Int32} {ju : Nat → Int32} {op : Nat → Int32} {en : Nat} {sm : Nat} {ob : Nat} {be : Nat → Int32} {af : Nat → Int32} {pl : Int32} {rf : Int32} {rp : Int32} {rs : Nat} {ra : Nat} {rb : Int32} {rl : Nat} (p s : Int32) (b : Bool) (h : (bel p (nI 3) && bel s (nI 5)) = false) : KM D (tyL cI cZ cJ) l yX4_mark wsX4_mark 2 42 [.ref (ad 0), .int p, .int s, .int (bI b)] (wC ad cI cZ tg fn ki nu fi se ju op en sm ob be af pl rf rp rs ra rb rl) (some (.int (bI false))) (wC ad cI cZ tg fn ki nu fi se ju op en sm ob be af pl rf rp rs ra rb rl) := by
  refine KM.of (cc := cX4_mark) (nL := 4) (ret := (some .boolean)) (by decide +kernel) rfl (Nat.le_of_ble_eq_true rfl) ?_
  refine v_iload_n 1 rfl dX4_mark_0 rfl rfl ?_
  refine v_iload_n 2 rfl dX4_mark_1 rfl rfl ?_
  refine v_callS (n := 2) 5 rfl (c_isState p s) gX4_mark_X4_isState rfl (by decide +kernel) rfl ⟨(Nat.le_of_ble_eq_true rfl), (Nat.le_of_ble_eq_true rfl)⟩ rfl (Nat.le_of_ble_eq_true rfl) dX4_mark_2 ⟨Nat.zero_le _, Nat.zero_le _⟩ ?_
  refine v_st (st' := [.int (bI (bel p (nI 3) && bel s (nI 5)))]) rfl ?_
  refine v_if_eqB (b := (bel p (nI 3) && bel s (nI 5))) 28 8 rfl dX4_mark_5 (by decide) (fun c5 => ?_) (fun q => False.elim (by rw [h] at q; cases q))
  refine v_iconst (v := nI 0) 29 rfl dX4_mark_28 (by decide) ?_
  refine v_top (v' := bI false) (by decide) ?_
  exact v_zret dX4_mark_29 rfl rfl rfl

set_option maxRecDepth 100000 in
set_option maxHeartbeats 4000000 in
theorem c_make {D : va_G} {cI cZ cJ : ClassId} {l : Launch} {ad : Nat → Nat} {tg : Nat → Int32} {fn : Nat → Int32} {ki : Nat → Int32} {nu : Nat → Int32} {fi : Nat → Int32} {se : Nat → Int32} {ju : Nat → Int32} {op : Nat → Int32} {en : Nat} {sm : Nat} {ob : Nat} {be : Nat → Int32} {af : Nat → Int32} {pl : Int32} {rf : Int32} {rp : Int32} {rs : Nat} {ra : Nat} {rb : Int32} {rl : Nat} (v x : Nat) (hv : v < 4) (hx : x < 3) (hs : sm < 40) (hen : en < 120) : KM D (tyL cI cZ cJ) l yX4_make wsX4_make 2 47 [.ref (ad 0), .int (nI v), .int (nI x)] (wC ad cI cZ tg fn ki nu fi se ju op en sm ob be af pl rf rp rs ra rb rl) (some (.int (nI sm))) (wC ad cI cZ tg fn (upd ki en (nI 0)) (upd nu en (nI sm)) (upd fi en (nI v)) (upd se en (nI x)) ju op (en + 1) (sm + 1) ob be af pl rf rp rs ra rb rl) := by
  refine KM.of (cc := cX4_make) (nL := 3) (ret := (some .int)) (by decide +kernel) rfl (Nat.le_of_ble_eq_true rfl) ?_
  have i4 : ∀ w ∈ u_ws RX4 TX4 4, w ∈ wsX4_make := by decide +kernel
  refine v_iload_n 1 rfl dX4_make_0 rfl rfl ?_
  refine v_callS (n := 1) 4 rfl (c_isVariableT v (by omega)) gX4_make_X4_isVariable rfl (by decide +kernel) rfl ⟨(Nat.le_of_ble_eq_true rfl), (Nat.le_of_ble_eq_true rfl)⟩ rfl (Nat.le_of_ble_eq_true rfl) dX4_make_1 ⟨Nat.zero_le _, Nat.zero_le _⟩ ?_
  refine v_st (st' := [.int (bI true)]) rfl ?_
  refine v_if_eqB (b := true) 28 7 rfl dX4_make_4 (by decide) (fun q => False.elim (by cases q)) (fun c4 => ?_)
  refine v_iload_n 8 rfl dX4_make_7 rfl rfl ?_
  refine v_iconst (v := nI 3) 9 rfl dX4_make_8 (by decide) ?_
  refine v_callS (n := 2) 12 rfl (c_isBelowT x 3 (by omega) (by omega)) gX4_make_X4_isBelow rfl (by decide +kernel) rfl ⟨(Nat.le_of_ble_eq_true rfl), (Nat.le_of_ble_eq_true rfl)⟩ rfl (Nat.le_of_ble_eq_true rfl) dX4_make_9 ⟨Nat.zero_le _, Nat.zero_le _⟩ ?_
  refine v_st (st' := [.int (bI true)]) rfl ?_
  refine v_if_eqB (b := true) 28 15 rfl dX4_make_12 (by decide) (fun q => False.elim (by cases q)) (fun c12 => ?_)
  refine v_aload_n 16 rfl dX4_make_15 rfl rfl ?_
  refine v_get (ci := 4) (C := RX4) (T := TX4) (N := 4) (v := .ref (ad 4)) 19 rfl 0 1 dX4_make_16 rfl (Nat.le_of_ble_eq_true rfl) i4 (by decide +kernel) rfl rfl ?_
  refine v_iconst (v := nI 0) 20 rfl dX4_make_19 (by decide) ?_
  refine v_iload_n 21 rfl dX4_make_20 rfl rfl ?_
  refine v_iload_n 22 rfl dX4_make_21 rfl rfl ?_
  refine v_callF (n := 3) (q0 := 4) (ci := 1) 25 rfl (c_addSimple (nI 0) (nI v) (nI x) hs hen) gX4_make_X1_addSimple rfl (by decide +kernel) rfl ⟨(Nat.le_of_ble_eq_true rfl), (Nat.le_of_ble_eq_true rfl)⟩ rfl (Nat.le_of_ble_eq_true rfl) rfl rfl rfl dX4_make_22 ⟨Nat.zero_le _, Nat.zero_le _⟩ rfl ?_
  refine v_st (st' := [.int (nI sm)]) rfl ?_
  refine v_goto 29 dX4_make_25 (by decide) ?_
  exact v_iret dX4_make_29 rfl rfl rfl

set_option maxRecDepth 100000 in
set_option maxHeartbeats 4000000 in
theorem c_makeF {D : va_G} {cI cZ cJ : ClassId} {l : Launch} {ad : Nat → Nat} {tg : Nat → Int32} {fn : Nat → Int32} {ki : Nat → Int32} {nu : Nat → Int32} {fi : Nat → Int32} {se : Nat → Int32} {ju : Nat → Int32} {op : Nat → Int32} {en : Nat} {sm : Nat} {ob : Nat} {be : Nat → Int32} {af : Nat → Int32} {pl : Int32} {rf : Int32} {rp : Int32} {rs : Nat} {ra : Nat} {rb : Int32} {rl : Nat} (v x : Nat) (hv : v < 4) (hx : x < 3) (hs : sm = 40) : KM D (tyL cI cZ cJ) l yX4_make wsX4_make 2 41 [.ref (ad 0), .int (nI v), .int (nI x)] (wC ad cI cZ tg fn ki nu fi se ju op en sm ob be af pl rf rp rs ra rb rl) (some (.int (-1))) (wC ad cI cZ tg fn ki nu fi se ju op en sm ob be af pl rf rp rs ra rb rl) := by
  refine KM.of (cc := cX4_make) (nL := 3) (ret := (some .int)) (by decide +kernel) rfl (Nat.le_of_ble_eq_true rfl) ?_
  have i4 : ∀ w ∈ u_ws RX4 TX4 4, w ∈ wsX4_make := by decide +kernel
  refine v_iload_n 1 rfl dX4_make_0 rfl rfl ?_
  refine v_callS (n := 1) 4 rfl (c_isVariableT v (by omega)) gX4_make_X4_isVariable rfl (by decide +kernel) rfl ⟨(Nat.le_of_ble_eq_true rfl), (Nat.le_of_ble_eq_true rfl)⟩ rfl (Nat.le_of_ble_eq_true rfl) dX4_make_1 ⟨Nat.zero_le _, Nat.zero_le _⟩ ?_
  refine v_st (st' := [.int (bI true)]) rfl ?_
  refine v_if_eqB (b := true) 28 7 rfl dX4_make_4 (by decide) (fun q => False.elim (by cases q)) (fun c4 => ?_)
  refine v_iload_n 8 rfl dX4_make_7 rfl rfl ?_
  refine v_iconst (v := nI 3) 9 rfl dX4_make_8 (by decide) ?_
  refine v_callS (n := 2) 12 rfl (c_isBelowT x 3 (by omega) (by omega)) gX4_make_X4_isBelow rfl (by decide +kernel) rfl ⟨(Nat.le_of_ble_eq_true rfl), (Nat.le_of_ble_eq_true rfl)⟩ rfl (Nat.le_of_ble_eq_true rfl) dX4_make_9 ⟨Nat.zero_le _, Nat.zero_le _⟩ ?_
  refine v_st (st' := [.int (bI true)]) rfl ?_
  refine v_if_eqB (b := true) 28 15 rfl dX4_make_12 (by decide) (fun q => False.elim (by cases q)) (fun c12 => ?_)
  refine v_aload_n 16 rfl dX4_make_15 rfl rfl ?_
  refine v_get (ci := 4) (C := RX4) (T := TX4) (N := 4) (v := .ref (ad 4)) 19 rfl 0 1 dX4_make_16 rfl (Nat.le_of_ble_eq_true rfl) i4 (by decide +kernel) rfl rfl ?_
  refine v_iconst (v := nI 0) 20 rfl dX4_make_19 (by decide) ?_
  refine v_iload_n 21 rfl dX4_make_20 rfl rfl ?_
  refine v_iload_n 22 rfl dX4_make_21 rfl rfl ?_
  refine v_callF (n := 3) (q0 := 4) (ci := 1) 25 rfl (c_addSimpleNo (nI 0) (nI v) (nI x) hs) gX4_make_X1_addSimple rfl (by decide +kernel) rfl ⟨(Nat.le_of_ble_eq_true rfl), (Nat.le_of_ble_eq_true rfl)⟩ rfl (Nat.le_of_ble_eq_true rfl) rfl rfl rfl dX4_make_22 ⟨Nat.zero_le _, Nat.zero_le _⟩ rfl ?_
  refine v_st (st' := [.int (-1)]) rfl ?_
  refine v_goto 29 dX4_make_25 (by decide) ?_
  exact v_iret dX4_make_29 rfl rfl rfl

set_option maxRecDepth 100000 in
set_option maxHeartbeats 4000000 in
theorem c_makeNo {D : va_G} {cI cZ cJ : ClassId} {l : Launch} {ad : Nat → Nat} {tg : Nat → Int32} {fn : Nat → Int32} {ki : Nat → Int32} {nu : Nat → Int32} {fi : Nat → Int32} {se : Nat → Int32} {ju : Nat → Int32} {op : Nat → Int32} {en : Nat} {sm : Nat} {ob : Nat} {be : Nat → Int32} {af : Nat → Int32} {pl : Int32} {rf : Int32} {rp : Int32} {rs : Nat} {ra : Nat} {rb : Int32} {rl : Nat} (v x : Int32) (h : (bel v (nI 4) && bel x (nI 3)) = false) : KM D (tyL cI cZ cJ) l yX4_make wsX4_make 2 41 [.ref (ad 0), .int v, .int x] (wC ad cI cZ tg fn ki nu fi se ju op en sm ob be af pl rf rp rs ra rb rl) (some (.int (-1))) (wC ad cI cZ tg fn ki nu fi se ju op en sm ob be af pl rf rp rs ra rb rl) := by
  refine KM.of (cc := cX4_make) (nL := 3) (ret := (some .int)) (by decide +kernel) rfl (Nat.le_of_ble_eq_true rfl) ?_
  refine v_iload_n 1 rfl dX4_make_0 rfl rfl ?_
  refine v_callS (n := 1) 4 rfl (c_isVariable v) gX4_make_X4_isVariable rfl (by decide +kernel) rfl ⟨(Nat.le_of_ble_eq_true rfl), (Nat.le_of_ble_eq_true rfl)⟩ rfl (Nat.le_of_ble_eq_true rfl) dX4_make_1 ⟨Nat.zero_le _, Nat.zero_le _⟩ ?_
  refine v_st (st' := [.int (bI (bel v (nI 4)))]) rfl ?_
  refine v_if_eqB (b := bel v (nI 4)) 28 7 rfl dX4_make_4 (by decide) (fun c4 => ?_) (fun c4 => ?_)
  · refine v_iconst (v := -1) 29 rfl dX4_make_28 (by decide) ?_
    exact v_iret dX4_make_29 rfl rfl rfl
  · refine v_iload_n 8 rfl dX4_make_7 rfl rfl ?_
    refine v_iconst (v := nI 3) 9 rfl dX4_make_8 (by decide) ?_
    refine v_callS (n := 2) 12 rfl (c_isBelow x (nI 3)) gX4_make_X4_isBelow rfl (by decide +kernel) rfl ⟨(Nat.le_of_ble_eq_true rfl), (Nat.le_of_ble_eq_true rfl)⟩ rfl (Nat.le_of_ble_eq_true rfl) dX4_make_9 ⟨Nat.zero_le _, Nat.zero_le _⟩ ?_
    refine v_st (st' := [.int (bI (bel x (nI 3)))]) rfl ?_
    refine v_if_eqB (b := bel x (nI 3)) 28 15 rfl dX4_make_12 (by decide) (fun c12 => ?_) (fun c12 => ?_)
    · refine v_iconst (v := -1) 29 rfl dX4_make_28 (by decide) ?_
      exact v_iret dX4_make_29 rfl rfl rfl
    · exact absurd h (by simp [*])

set_option maxRecDepth 100000 in
set_option maxHeartbeats 4000000 in
theorem c_call {D : va_G} {cI cZ cJ : ClassId} {l : Launch} {ad : Nat → Nat} {tg : Nat → Int32} {fn : Nat → Int32} {ki : Nat → Int32} {nu : Nat → Int32} {fi : Nat → Int32} {se : Nat → Int32} {ju : Nat → Int32} {op : Nat → Int32} {en : Nat} {sm : Nat} {ob : Nat} {be : Nat → Int32} {af : Nat → Int32} {pl : Int32} {rf : Int32} {rp : Int32} {rs : Nat} {ra : Nat} {rb : Int32} {rl : Nat} (v x : Nat) (hv : v < 4) (hx : x < 4) (hs : sm < 40) (hen : en < 120) : KM D (tyL cI cZ cJ) l yX4_call wsX4_call 2 47 [.ref (ad 0), .int (nI v), .int (nI x)] (wC ad cI cZ tg fn ki nu fi se ju op en sm ob be af pl rf rp rs ra rb rl) (some (.int (nI sm))) (wC ad cI cZ tg fn (upd ki en (nI 1)) (upd nu en (nI sm)) (upd fi en (nI v)) (upd se en (nI x)) ju op (en + 1) (sm + 1) ob be af pl rf rp rs ra rb rl) := by
  refine KM.of (cc := cX4_call) (nL := 3) (ret := (some .int)) (by decide +kernel) rfl (Nat.le_of_ble_eq_true rfl) ?_
  have i4 : ∀ w ∈ u_ws RX4 TX4 4, w ∈ wsX4_call := by decide +kernel
  refine v_iload_n 1 rfl dX4_call_0 rfl rfl ?_
  refine v_callS (n := 1) 4 rfl (c_isVariableT v (by omega)) gX4_call_X4_isVariable rfl (by decide +kernel) rfl ⟨(Nat.le_of_ble_eq_true rfl), (Nat.le_of_ble_eq_true rfl)⟩ rfl (Nat.le_of_ble_eq_true rfl) dX4_call_1 ⟨Nat.zero_le _, Nat.zero_le _⟩ ?_
  refine v_st (st' := [.int (bI true)]) rfl ?_
  refine v_if_eqB (b := true) 28 7 rfl dX4_call_4 (by decide) (fun q => False.elim (by cases q)) (fun c4 => ?_)
  refine v_iload_n 8 rfl dX4_call_7 rfl rfl ?_
  refine v_iconst (v := nI 4) 9 rfl dX4_call_8 (by decide) ?_
  refine v_callS (n := 2) 12 rfl (c_isBelowT x 4 (by omega) (by omega)) gX4_call_X4_isBelow rfl (by decide +kernel) rfl ⟨(Nat.le_of_ble_eq_true rfl), (Nat.le_of_ble_eq_true rfl)⟩ rfl (Nat.le_of_ble_eq_true rfl) dX4_call_9 ⟨Nat.zero_le _, Nat.zero_le _⟩ ?_
  refine v_st (st' := [.int (bI true)]) rfl ?_
  refine v_if_eqB (b := true) 28 15 rfl dX4_call_12 (by decide) (fun q => False.elim (by cases q)) (fun c12 => ?_)
  refine v_aload_n 16 rfl dX4_call_15 rfl rfl ?_
  refine v_get (ci := 4) (C := RX4) (T := TX4) (N := 4) (v := .ref (ad 4)) 19 rfl 0 1 dX4_call_16 rfl (Nat.le_of_ble_eq_true rfl) i4 (by decide +kernel) rfl rfl ?_
  refine v_iconst (v := nI 1) 20 rfl dX4_call_19 (by decide) ?_
  refine v_iload_n 21 rfl dX4_call_20 rfl rfl ?_
  refine v_iload_n 22 rfl dX4_call_21 rfl rfl ?_
  refine v_callF (n := 3) (q0 := 4) (ci := 1) 25 rfl (c_addSimple (nI 1) (nI v) (nI x) hs hen) gX4_call_X1_addSimple rfl (by decide +kernel) rfl ⟨(Nat.le_of_ble_eq_true rfl), (Nat.le_of_ble_eq_true rfl)⟩ rfl (Nat.le_of_ble_eq_true rfl) rfl rfl rfl dX4_call_22 ⟨Nat.zero_le _, Nat.zero_le _⟩ rfl ?_
  refine v_st (st' := [.int (nI sm)]) rfl ?_
  refine v_goto 29 dX4_call_25 (by decide) ?_
  exact v_iret dX4_call_29 rfl rfl rfl

set_option maxRecDepth 100000 in
set_option maxHeartbeats 4000000 in
theorem c_callF {D : va_G} {cI cZ cJ : ClassId} {l : Launch} {ad : Nat → Nat} {tg : Nat → Int32} {fn : Nat → Int32} {ki : Nat → Int32} {nu : Nat → Int32} {fi : Nat → Int32} {se : Nat → Int32} {ju : Nat → Int32} {op : Nat → Int32} {en : Nat} {sm : Nat} {ob : Nat} {be : Nat → Int32} {af : Nat → Int32} {pl : Int32} {rf : Int32} {rp : Int32} {rs : Nat} {ra : Nat} {rb : Int32} {rl : Nat} (v x : Nat) (hv : v < 4) (hx : x < 4) (hs : sm = 40) : KM D (tyL cI cZ cJ) l yX4_call wsX4_call 2 41 [.ref (ad 0), .int (nI v), .int (nI x)] (wC ad cI cZ tg fn ki nu fi se ju op en sm ob be af pl rf rp rs ra rb rl) (some (.int (-1))) (wC ad cI cZ tg fn ki nu fi se ju op en sm ob be af pl rf rp rs ra rb rl) := by
  refine KM.of (cc := cX4_call) (nL := 3) (ret := (some .int)) (by decide +kernel) rfl (Nat.le_of_ble_eq_true rfl) ?_
  have i4 : ∀ w ∈ u_ws RX4 TX4 4, w ∈ wsX4_call := by decide +kernel
  refine v_iload_n 1 rfl dX4_call_0 rfl rfl ?_
  refine v_callS (n := 1) 4 rfl (c_isVariableT v (by omega)) gX4_call_X4_isVariable rfl (by decide +kernel) rfl ⟨(Nat.le_of_ble_eq_true rfl), (Nat.le_of_ble_eq_true rfl)⟩ rfl (Nat.le_of_ble_eq_true rfl) dX4_call_1 ⟨Nat.zero_le _, Nat.zero_le _⟩ ?_
  refine v_st (st' := [.int (bI true)]) rfl ?_
  refine v_if_eqB (b := true) 28 7 rfl dX4_call_4 (by decide) (fun q => False.elim (by cases q)) (fun c4 => ?_)
  refine v_iload_n 8 rfl dX4_call_7 rfl rfl ?_
  refine v_iconst (v := nI 4) 9 rfl dX4_call_8 (by decide) ?_
  refine v_callS (n := 2) 12 rfl (c_isBelowT x 4 (by omega) (by omega)) gX4_call_X4_isBelow rfl (by decide +kernel) rfl ⟨(Nat.le_of_ble_eq_true rfl), (Nat.le_of_ble_eq_true rfl)⟩ rfl (Nat.le_of_ble_eq_true rfl) dX4_call_9 ⟨Nat.zero_le _, Nat.zero_le _⟩ ?_
  refine v_st (st' := [.int (bI true)]) rfl ?_
  refine v_if_eqB (b := true) 28 15 rfl dX4_call_12 (by decide) (fun q => False.elim (by cases q)) (fun c12 => ?_)
  refine v_aload_n 16 rfl dX4_call_15 rfl rfl ?_
  refine v_get (ci := 4) (C := RX4) (T := TX4) (N := 4) (v := .ref (ad 4)) 19 rfl 0 1 dX4_call_16 rfl (Nat.le_of_ble_eq_true rfl) i4 (by decide +kernel) rfl rfl ?_
  refine v_iconst (v := nI 1) 20 rfl dX4_call_19 (by decide) ?_
  refine v_iload_n 21 rfl dX4_call_20 rfl rfl ?_
  refine v_iload_n 22 rfl dX4_call_21 rfl rfl ?_
  refine v_callF (n := 3) (q0 := 4) (ci := 1) 25 rfl (c_addSimpleNo (nI 1) (nI v) (nI x) hs) gX4_call_X1_addSimple rfl (by decide +kernel) rfl ⟨(Nat.le_of_ble_eq_true rfl), (Nat.le_of_ble_eq_true rfl)⟩ rfl (Nat.le_of_ble_eq_true rfl) rfl rfl rfl dX4_call_22 ⟨Nat.zero_le _, Nat.zero_le _⟩ rfl ?_
  refine v_st (st' := [.int (-1)]) rfl ?_
  refine v_goto 29 dX4_call_25 (by decide) ?_
  exact v_iret dX4_call_29 rfl rfl rfl

set_option maxRecDepth 100000 in
set_option maxHeartbeats 4000000 in
theorem c_callNo {D : va_G} {cI cZ cJ : ClassId} {l : Launch} {ad : Nat → Nat} {tg : Nat → Int32} {fn : Nat → Int32} {ki : Nat → Int32} {nu : Nat → Int32} {fi : Nat → Int32} {se : Nat → Int32} {ju : Nat → Int32} {op : Nat → Int32} {en : Nat} {sm : Nat} {ob : Nat} {be : Nat → Int32} {af : Nat → Int32} {pl : Int32} {rf : Int32} {rp : Int32} {rs : Nat} {ra : Nat} {rb : Int32} {rl : Nat} (v x : Int32) (h : (bel v (nI 4) && bel x (nI 4)) = false) : KM D (tyL cI cZ cJ) l yX4_call wsX4_call 2 41 [.ref (ad 0), .int v, .int x] (wC ad cI cZ tg fn ki nu fi se ju op en sm ob be af pl rf rp rs ra rb rl) (some (.int (-1))) (wC ad cI cZ tg fn ki nu fi se ju op en sm ob be af pl rf rp rs ra rb rl) := by
  refine KM.of (cc := cX4_call) (nL := 3) (ret := (some .int)) (by decide +kernel) rfl (Nat.le_of_ble_eq_true rfl) ?_
  refine v_iload_n 1 rfl dX4_call_0 rfl rfl ?_
  refine v_callS (n := 1) 4 rfl (c_isVariable v) gX4_call_X4_isVariable rfl (by decide +kernel) rfl ⟨(Nat.le_of_ble_eq_true rfl), (Nat.le_of_ble_eq_true rfl)⟩ rfl (Nat.le_of_ble_eq_true rfl) dX4_call_1 ⟨Nat.zero_le _, Nat.zero_le _⟩ ?_
  refine v_st (st' := [.int (bI (bel v (nI 4)))]) rfl ?_
  refine v_if_eqB (b := bel v (nI 4)) 28 7 rfl dX4_call_4 (by decide) (fun c4 => ?_) (fun c4 => ?_)
  · refine v_iconst (v := -1) 29 rfl dX4_call_28 (by decide) ?_
    exact v_iret dX4_call_29 rfl rfl rfl
  · refine v_iload_n 8 rfl dX4_call_7 rfl rfl ?_
    refine v_iconst (v := nI 4) 9 rfl dX4_call_8 (by decide) ?_
    refine v_callS (n := 2) 12 rfl (c_isBelow x (nI 4)) gX4_call_X4_isBelow rfl (by decide +kernel) rfl ⟨(Nat.le_of_ble_eq_true rfl), (Nat.le_of_ble_eq_true rfl)⟩ rfl (Nat.le_of_ble_eq_true rfl) dX4_call_9 ⟨Nat.zero_le _, Nat.zero_le _⟩ ?_
    refine v_st (st' := [.int (bI (bel x (nI 4)))]) rfl ?_
    refine v_if_eqB (b := bel x (nI 4)) 28 15 rfl dX4_call_12 (by decide) (fun c12 => ?_) (fun c12 => ?_)
    · refine v_iconst (v := -1) 29 rfl dX4_call_28 (by decide) ?_
      exact v_iret dX4_call_29 rfl rfl rfl
    · exact absurd h (by simp [*])

set_option maxRecDepth 100000 in
set_option maxHeartbeats 4000000 in
theorem c_move {D : va_G} {cI cZ cJ : ClassId} {l : Launch} {ad : Nat → Nat} {tg : Nat → Int32} {fn : Nat → Int32} {ki : Nat → Int32} {nu : Nat → Int32} {fi : Nat → Int32} {se : Nat → Int32} {ju : Nat → Int32} {op : Nat → Int32} {en : Nat} {sm : Nat} {ob : Nat} {be : Nat → Int32} {af : Nat → Int32} {pl : Int32} {rf : Int32} {rp : Int32} {rs : Nat} {ra : Nat} {rb : Int32} {rl : Nat} (v x : Nat) (hv : v < 4) (hx : x < 4) (hs : sm < 40) (hen : en < 120) : KM D (tyL cI cZ cJ) l yX4_move wsX4_move 2 47 [.ref (ad 0), .int (nI v), .int (nI x)] (wC ad cI cZ tg fn ki nu fi se ju op en sm ob be af pl rf rp rs ra rb rl) (some (.int (nI sm))) (wC ad cI cZ tg fn (upd ki en (nI 2)) (upd nu en (nI sm)) (upd fi en (nI v)) (upd se en (nI x)) ju op (en + 1) (sm + 1) ob be af pl rf rp rs ra rb rl) := by
  refine KM.of (cc := cX4_move) (nL := 3) (ret := (some .int)) (by decide +kernel) rfl (Nat.le_of_ble_eq_true rfl) ?_
  have i4 : ∀ w ∈ u_ws RX4 TX4 4, w ∈ wsX4_move := by decide +kernel
  refine v_iload_n 1 rfl dX4_move_0 rfl rfl ?_
  refine v_callS (n := 1) 4 rfl (c_isVariableT v (by omega)) gX4_move_X4_isVariable rfl (by decide +kernel) rfl ⟨(Nat.le_of_ble_eq_true rfl), (Nat.le_of_ble_eq_true rfl)⟩ rfl (Nat.le_of_ble_eq_true rfl) dX4_move_1 ⟨Nat.zero_le _, Nat.zero_le _⟩ ?_
  refine v_st (st' := [.int (bI true)]) rfl ?_
  refine v_if_eqB (b := true) 27 7 rfl dX4_move_4 (by decide) (fun q => False.elim (by cases q)) (fun c4 => ?_)
  refine v_iload_n 8 rfl dX4_move_7 rfl rfl ?_
  refine v_callS (n := 1) 11 rfl (c_isVariableT x (by omega)) gX4_move_X4_isVariable rfl (by decide +kernel) rfl ⟨(Nat.le_of_ble_eq_true rfl), (Nat.le_of_ble_eq_true rfl)⟩ rfl (Nat.le_of_ble_eq_true rfl) dX4_move_8 ⟨Nat.zero_le _, Nat.zero_le _⟩ ?_
  refine v_st (st' := [.int (bI true)]) rfl ?_
  refine v_if_eqB (b := true) 27 14 rfl dX4_move_11 (by decide) (fun q => False.elim (by cases q)) (fun c11 => ?_)
  refine v_aload_n 15 rfl dX4_move_14 rfl rfl ?_
  refine v_get (ci := 4) (C := RX4) (T := TX4) (N := 4) (v := .ref (ad 4)) 18 rfl 0 1 dX4_move_15 rfl (Nat.le_of_ble_eq_true rfl) i4 (by decide +kernel) rfl rfl ?_
  refine v_iconst (v := nI 2) 19 rfl dX4_move_18 (by decide) ?_
  refine v_iload_n 20 rfl dX4_move_19 rfl rfl ?_
  refine v_iload_n 21 rfl dX4_move_20 rfl rfl ?_
  refine v_callF (n := 3) (q0 := 4) (ci := 1) 24 rfl (c_addSimple (nI 2) (nI v) (nI x) hs hen) gX4_move_X1_addSimple rfl (by decide +kernel) rfl ⟨(Nat.le_of_ble_eq_true rfl), (Nat.le_of_ble_eq_true rfl)⟩ rfl (Nat.le_of_ble_eq_true rfl) rfl rfl rfl dX4_move_21 ⟨Nat.zero_le _, Nat.zero_le _⟩ rfl ?_
  refine v_st (st' := [.int (nI sm)]) rfl ?_
  refine v_goto 28 dX4_move_24 (by decide) ?_
  exact v_iret dX4_move_28 rfl rfl rfl

set_option maxRecDepth 100000 in
set_option maxHeartbeats 4000000 in
theorem c_moveF {D : va_G} {cI cZ cJ : ClassId} {l : Launch} {ad : Nat → Nat} {tg : Nat → Int32} {fn : Nat → Int32} {ki : Nat → Int32} {nu : Nat → Int32} {fi : Nat → Int32} {se : Nat → Int32} {ju : Nat → Int32} {op : Nat → Int32} {en : Nat} {sm : Nat} {ob : Nat} {be : Nat → Int32} {af : Nat → Int32} {pl : Int32} {rf : Int32} {rp : Int32} {rs : Nat} {ra : Nat} {rb : Int32} {rl : Nat} (v x : Nat) (hv : v < 4) (hx : x < 4) (hs : sm = 40) : KM D (tyL cI cZ cJ) l yX4_move wsX4_move 2 41 [.ref (ad 0), .int (nI v), .int (nI x)] (wC ad cI cZ tg fn ki nu fi se ju op en sm ob be af pl rf rp rs ra rb rl) (some (.int (-1))) (wC ad cI cZ tg fn ki nu fi se ju op en sm ob be af pl rf rp rs ra rb rl) := by
  refine KM.of (cc := cX4_move) (nL := 3) (ret := (some .int)) (by decide +kernel) rfl (Nat.le_of_ble_eq_true rfl) ?_
  have i4 : ∀ w ∈ u_ws RX4 TX4 4, w ∈ wsX4_move := by decide +kernel
  refine v_iload_n 1 rfl dX4_move_0 rfl rfl ?_
  refine v_callS (n := 1) 4 rfl (c_isVariableT v (by omega)) gX4_move_X4_isVariable rfl (by decide +kernel) rfl ⟨(Nat.le_of_ble_eq_true rfl), (Nat.le_of_ble_eq_true rfl)⟩ rfl (Nat.le_of_ble_eq_true rfl) dX4_move_1 ⟨Nat.zero_le _, Nat.zero_le _⟩ ?_
  refine v_st (st' := [.int (bI true)]) rfl ?_
  refine v_if_eqB (b := true) 27 7 rfl dX4_move_4 (by decide) (fun q => False.elim (by cases q)) (fun c4 => ?_)
  refine v_iload_n 8 rfl dX4_move_7 rfl rfl ?_
  refine v_callS (n := 1) 11 rfl (c_isVariableT x (by omega)) gX4_move_X4_isVariable rfl (by decide +kernel) rfl ⟨(Nat.le_of_ble_eq_true rfl), (Nat.le_of_ble_eq_true rfl)⟩ rfl (Nat.le_of_ble_eq_true rfl) dX4_move_8 ⟨Nat.zero_le _, Nat.zero_le _⟩ ?_
  refine v_st (st' := [.int (bI true)]) rfl ?_
  refine v_if_eqB (b := true) 27 14 rfl dX4_move_11 (by decide) (fun q => False.elim (by cases q)) (fun c11 => ?_)
  refine v_aload_n 15 rfl dX4_move_14 rfl rfl ?_
  refine v_get (ci := 4) (C := RX4) (T := TX4) (N := 4) (v := .ref (ad 4)) 18 rfl 0 1 dX4_move_15 rfl (Nat.le_of_ble_eq_true rfl) i4 (by decide +kernel) rfl rfl ?_
  refine v_iconst (v := nI 2) 19 rfl dX4_move_18 (by decide) ?_
  refine v_iload_n 20 rfl dX4_move_19 rfl rfl ?_
  refine v_iload_n 21 rfl dX4_move_20 rfl rfl ?_
  refine v_callF (n := 3) (q0 := 4) (ci := 1) 24 rfl (c_addSimpleNo (nI 2) (nI v) (nI x) hs) gX4_move_X1_addSimple rfl (by decide +kernel) rfl ⟨(Nat.le_of_ble_eq_true rfl), (Nat.le_of_ble_eq_true rfl)⟩ rfl (Nat.le_of_ble_eq_true rfl) rfl rfl rfl dX4_move_21 ⟨Nat.zero_le _, Nat.zero_le _⟩ rfl ?_
  refine v_st (st' := [.int (-1)]) rfl ?_
  refine v_goto 28 dX4_move_24 (by decide) ?_
  exact v_iret dX4_move_28 rfl rfl rfl

set_option maxRecDepth 100000 in
set_option maxHeartbeats 4000000 in
theorem c_moveNo {D : va_G} {cI cZ cJ : ClassId} {l : Launch} {ad : Nat → Nat} {tg : Nat → Int32} {fn : Nat → Int32} {ki : Nat → Int32} {nu : Nat → Int32} {fi : Nat → Int32} {se : Nat → Int32} {ju : Nat → Int32} {op : Nat → Int32} {en : Nat} {sm : Nat} {ob : Nat} {be : Nat → Int32} {af : Nat → Int32} {pl : Int32} {rf : Int32} {rp : Int32} {rs : Nat} {ra : Nat} {rb : Int32} {rl : Nat} (v x : Int32) (h : (bel v (nI 4) && bel x (nI 4)) = false) : KM D (tyL cI cZ cJ) l yX4_move wsX4_move 2 41 [.ref (ad 0), .int v, .int x] (wC ad cI cZ tg fn ki nu fi se ju op en sm ob be af pl rf rp rs ra rb rl) (some (.int (-1))) (wC ad cI cZ tg fn ki nu fi se ju op en sm ob be af pl rf rp rs ra rb rl) := by
  refine KM.of (cc := cX4_move) (nL := 3) (ret := (some .int)) (by decide +kernel) rfl (Nat.le_of_ble_eq_true rfl) ?_
  refine v_iload_n 1 rfl dX4_move_0 rfl rfl ?_
  refine v_callS (n := 1) 4 rfl (c_isVariable v) gX4_move_X4_isVariable rfl (by decide +kernel) rfl ⟨(Nat.le_of_ble_eq_true rfl), (Nat.le_of_ble_eq_true rfl)⟩ rfl (Nat.le_of_ble_eq_true rfl) dX4_move_1 ⟨Nat.zero_le _, Nat.zero_le _⟩ ?_
  refine v_st (st' := [.int (bI (bel v (nI 4)))]) rfl ?_
  refine v_if_eqB (b := bel v (nI 4)) 27 7 rfl dX4_move_4 (by decide) (fun c4 => ?_) (fun c4 => ?_)
  · refine v_iconst (v := -1) 28 rfl dX4_move_27 (by decide) ?_
    exact v_iret dX4_move_28 rfl rfl rfl
  · refine v_iload_n 8 rfl dX4_move_7 rfl rfl ?_
    refine v_callS (n := 1) 11 rfl (c_isVariable x) gX4_move_X4_isVariable rfl (by decide +kernel) rfl ⟨(Nat.le_of_ble_eq_true rfl), (Nat.le_of_ble_eq_true rfl)⟩ rfl (Nat.le_of_ble_eq_true rfl) dX4_move_8 ⟨Nat.zero_le _, Nat.zero_le _⟩ ?_
    refine v_st (st' := [.int (bI (bel x (nI 4)))]) rfl ?_
    refine v_if_eqB (b := bel x (nI 4)) 27 14 rfl dX4_move_11 (by decide) (fun c11 => ?_) (fun c11 => ?_)
    · refine v_iconst (v := -1) 28 rfl dX4_move_27 (by decide) ?_
      exact v_iret dX4_move_28 rfl rfl rfl
    · exact absurd h (by simp [*])

set_option maxRecDepth 100000 in
set_option maxHeartbeats 4000000 in
theorem c_drop {D : va_G} {cI cZ cJ : ClassId} {l : Launch} {ad : Nat → Nat} {tg : Nat → Int32} {fn : Nat → Int32} {ki : Nat → Int32} {nu : Nat → Int32} {fi : Nat → Int32} {se : Nat → Int32} {ju : Nat → Int32} {op : Nat → Int32} {en : Nat} {sm : Nat} {ob : Nat} {be : Nat → Int32} {af : Nat → Int32} {pl : Int32} {rf : Int32} {rp : Int32} {rs : Nat} {ra : Nat} {rb : Int32} {rl : Nat} (v : Nat) (hv : v < 4) (hs : sm < 40) (hen : en < 120) : KM D (tyL cI cZ cJ) l yX4_drop wsX4_drop 2 47 [.ref (ad 0), .int (nI v)] (wC ad cI cZ tg fn ki nu fi se ju op en sm ob be af pl rf rp rs ra rb rl) (some (.int (nI sm))) (wC ad cI cZ tg fn (upd ki en (nI 3)) (upd nu en (nI sm)) (upd fi en (nI v)) (upd se en (nI 0)) ju op (en + 1) (sm + 1) ob be af pl rf rp rs ra rb rl) := by
  refine KM.of (cc := cX4_drop) (nL := 2) (ret := (some .int)) (by decide +kernel) rfl (Nat.le_of_ble_eq_true rfl) ?_
  have i4 : ∀ w ∈ u_ws RX4 TX4 4, w ∈ wsX4_drop := by decide +kernel
  refine v_iload_n 1 rfl dX4_drop_0 rfl rfl ?_
  refine v_callS (n := 1) 4 rfl (c_isVariableT v (by omega)) gX4_drop_X4_isVariable rfl (by decide +kernel) rfl ⟨(Nat.le_of_ble_eq_true rfl), (Nat.le_of_ble_eq_true rfl)⟩ rfl (Nat.le_of_ble_eq_true rfl) dX4_drop_1 ⟨Nat.zero_le _, Nat.zero_le _⟩ ?_
  refine v_st (st' := [.int (bI true)]) rfl ?_
  refine v_if_eqB (b := true) 20 7 rfl dX4_drop_4 (by decide) (fun q => False.elim (by cases q)) (fun c4 => ?_)
  refine v_aload_n 8 rfl dX4_drop_7 rfl rfl ?_
  refine v_get (ci := 4) (C := RX4) (T := TX4) (N := 4) (v := .ref (ad 4)) 11 rfl 0 1 dX4_drop_8 rfl (Nat.le_of_ble_eq_true rfl) i4 (by decide +kernel) rfl rfl ?_
  refine v_iconst (v := nI 3) 12 rfl dX4_drop_11 (by decide) ?_
  refine v_iload_n 13 rfl dX4_drop_12 rfl rfl ?_
  refine v_iconst (v := nI 0) 14 rfl dX4_drop_13 (by decide) ?_
  refine v_callF (n := 3) (q0 := 4) (ci := 1) 17 rfl (c_addSimple (nI 3) (nI v) (nI 0) hs hen) gX4_drop_X1_addSimple rfl (by decide +kernel) rfl ⟨(Nat.le_of_ble_eq_true rfl), (Nat.le_of_ble_eq_true rfl)⟩ rfl (Nat.le_of_ble_eq_true rfl) rfl rfl rfl dX4_drop_14 ⟨Nat.zero_le _, Nat.zero_le _⟩ rfl ?_
  refine v_st (st' := [.int (nI sm)]) rfl ?_
  refine v_goto 21 dX4_drop_17 (by decide) ?_
  exact v_iret dX4_drop_21 rfl rfl rfl

set_option maxRecDepth 100000 in
set_option maxHeartbeats 4000000 in
theorem c_dropF {D : va_G} {cI cZ cJ : ClassId} {l : Launch} {ad : Nat → Nat} {tg : Nat → Int32} {fn : Nat → Int32} {ki : Nat → Int32} {nu : Nat → Int32} {fi : Nat → Int32} {se : Nat → Int32} {ju : Nat → Int32} {op : Nat → Int32} {en : Nat} {sm : Nat} {ob : Nat} {be : Nat → Int32} {af : Nat → Int32} {pl : Int32} {rf : Int32} {rp : Int32} {rs : Nat} {ra : Nat} {rb : Int32} {rl : Nat} (v : Nat) (hv : v < 4) (hs : sm = 40) : KM D (tyL cI cZ cJ) l yX4_drop wsX4_drop 2 41 [.ref (ad 0), .int (nI v)] (wC ad cI cZ tg fn ki nu fi se ju op en sm ob be af pl rf rp rs ra rb rl) (some (.int (-1))) (wC ad cI cZ tg fn ki nu fi se ju op en sm ob be af pl rf rp rs ra rb rl) := by
  refine KM.of (cc := cX4_drop) (nL := 2) (ret := (some .int)) (by decide +kernel) rfl (Nat.le_of_ble_eq_true rfl) ?_
  have i4 : ∀ w ∈ u_ws RX4 TX4 4, w ∈ wsX4_drop := by decide +kernel
  refine v_iload_n 1 rfl dX4_drop_0 rfl rfl ?_
  refine v_callS (n := 1) 4 rfl (c_isVariableT v (by omega)) gX4_drop_X4_isVariable rfl (by decide +kernel) rfl ⟨(Nat.le_of_ble_eq_true rfl), (Nat.le_of_ble_eq_true rfl)⟩ rfl (Nat.le_of_ble_eq_true rfl) dX4_drop_1 ⟨Nat.zero_le _, Nat.zero_le _⟩ ?_
  refine v_st (st' := [.int (bI true)]) rfl ?_
  refine v_if_eqB (b := true) 20 7 rfl dX4_drop_4 (by decide) (fun q => False.elim (by cases q)) (fun c4 => ?_)
  refine v_aload_n 8 rfl dX4_drop_7 rfl rfl ?_
  refine v_get (ci := 4) (C := RX4) (T := TX4) (N := 4) (v := .ref (ad 4)) 11 rfl 0 1 dX4_drop_8 rfl (Nat.le_of_ble_eq_true rfl) i4 (by decide +kernel) rfl rfl ?_
  refine v_iconst (v := nI 3) 12 rfl dX4_drop_11 (by decide) ?_
  refine v_iload_n 13 rfl dX4_drop_12 rfl rfl ?_
  refine v_iconst (v := nI 0) 14 rfl dX4_drop_13 (by decide) ?_
  refine v_callF (n := 3) (q0 := 4) (ci := 1) 17 rfl (c_addSimpleNo (nI 3) (nI v) (nI 0) hs) gX4_drop_X1_addSimple rfl (by decide +kernel) rfl ⟨(Nat.le_of_ble_eq_true rfl), (Nat.le_of_ble_eq_true rfl)⟩ rfl (Nat.le_of_ble_eq_true rfl) rfl rfl rfl dX4_drop_14 ⟨Nat.zero_le _, Nat.zero_le _⟩ rfl ?_
  refine v_st (st' := [.int (-1)]) rfl ?_
  refine v_goto 21 dX4_drop_17 (by decide) ?_
  exact v_iret dX4_drop_21 rfl rfl rfl

set_option maxRecDepth 100000 in
set_option maxHeartbeats 4000000 in
theorem c_dropNo {D : va_G} {cI cZ cJ : ClassId} {l : Launch} {ad : Nat → Nat} {tg : Nat → Int32} {fn : Nat → Int32} {ki : Nat → Int32} {nu : Nat → Int32} {fi : Nat → Int32} {se : Nat → Int32} {ju : Nat → Int32} {op : Nat → Int32} {en : Nat} {sm : Nat} {ob : Nat} {be : Nat → Int32} {af : Nat → Int32} {pl : Int32} {rf : Int32} {rp : Int32} {rs : Nat} {ra : Nat} {rb : Int32} {rl : Nat} (v : Int32) (h : bel v (nI 4) = false) : KM D (tyL cI cZ cJ) l yX4_drop wsX4_drop 2 41 [.ref (ad 0), .int v] (wC ad cI cZ tg fn ki nu fi se ju op en sm ob be af pl rf rp rs ra rb rl) (some (.int (-1))) (wC ad cI cZ tg fn ki nu fi se ju op en sm ob be af pl rf rp rs ra rb rl) := by
  refine KM.of (cc := cX4_drop) (nL := 2) (ret := (some .int)) (by decide +kernel) rfl (Nat.le_of_ble_eq_true rfl) ?_
  refine v_iload_n 1 rfl dX4_drop_0 rfl rfl ?_
  refine v_callS (n := 1) 4 rfl (c_isVariable v) gX4_drop_X4_isVariable rfl (by decide +kernel) rfl ⟨(Nat.le_of_ble_eq_true rfl), (Nat.le_of_ble_eq_true rfl)⟩ rfl (Nat.le_of_ble_eq_true rfl) dX4_drop_1 ⟨Nat.zero_le _, Nat.zero_le _⟩ ?_
  refine v_st (st' := [.int (bI (bel v (nI 4)))]) rfl ?_
  refine v_if_eqB (b := bel v (nI 4)) 20 7 rfl dX4_drop_4 (by decide) (fun c4 => ?_) (fun q => False.elim (by rw [h] at q; cases q))
  refine v_iconst (v := -1) 21 rfl dX4_drop_20 (by decide) ?_
  exact v_iret dX4_drop_21 rfl rfl rfl

set_option maxRecDepth 100000 in
set_option maxHeartbeats 4000000 in
theorem c_choose {D : va_G} {cI cZ cJ : ClassId} {l : Launch} {ad : Nat → Nat} {tg : Nat → Int32} {fn : Nat → Int32} {ki : Nat → Int32} {nu : Nat → Int32} {fi : Nat → Int32} {se : Nat → Int32} {ju : Nat → Int32} {op : Nat → Int32} {en : Nat} {sm : Nat} {ob : Nat} {be : Nat → Int32} {af : Nat → Int32} {pl : Int32} {rf : Int32} {rp : Int32} {rs : Nat} {ra : Nat} {rb : Int32} {rl : Nat} (hs : sm < 40) (ho : ob < 6) (hen : en < 120) : KM D (tyL cI cZ cJ) l yX4_choose wsX4_choose 2 45 [.ref (ad 0)] (wC ad cI cZ tg fn ki nu fi se ju op en sm ob be af pl rf rp rs ra rb rl) (some (.int (nI sm))) (wC ad cI cZ tg fn (upd ki en (nI 4)) (upd nu en (nI sm)) (upd fi en (nI 0)) (upd se en (nI 0)) ju (upd op ob (nI en)) (en + 1) (sm + 1) (ob + 1) be af pl rf rp rs ra rb rl) := by
  refine KM.of (cc := cX4_choose) (nL := 1) (ret := (some .int)) (by decide +kernel) rfl (Nat.le_of_ble_eq_true rfl) ?_
  have i4 : ∀ w ∈ u_ws RX4 TX4 4, w ∈ wsX4_choose := by decide +kernel
  refine v_aload_n 1 rfl dX4_choose_0 rfl rfl ?_
  refine v_get (ci := 4) (C := RX4) (T := TX4) (N := 4) (v := .ref (ad 4)) 4 rfl 0 1 dX4_choose_1 rfl (Nat.le_of_ble_eq_true rfl) i4 (by decide +kernel) rfl rfl ?_
  refine v_iconst (v := nI 4) 5 rfl dX4_choose_4 (by decide) ?_
  refine v_callF (n := 1) (q0 := 4) (ci := 1) 8 rfl (c_addOpening (nI 4) hs ho hen) gX4_choose_X1_addOpening rfl (by decide +kernel) rfl ⟨(Nat.le_of_ble_eq_true rfl), (Nat.le_of_ble_eq_true rfl)⟩ rfl (Nat.le_of_ble_eq_true rfl) rfl rfl rfl dX4_choose_5 ⟨Nat.zero_le _, Nat.zero_le _⟩ rfl ?_
  refine v_st (st' := [.int (nI sm)]) rfl ?_
  exact v_iret dX4_choose_8 rfl rfl rfl

set_option maxRecDepth 100000 in
set_option maxHeartbeats 4000000 in
theorem c_chooseNo {D : va_G} {cI cZ cJ : ClassId} {l : Launch} {ad : Nat → Nat} {tg : Nat → Int32} {fn : Nat → Int32} {ki : Nat → Int32} {nu : Nat → Int32} {fi : Nat → Int32} {se : Nat → Int32} {ju : Nat → Int32} {op : Nat → Int32} {en : Nat} {sm : Nat} {ob : Nat} {be : Nat → Int32} {af : Nat → Int32} {pl : Int32} {rf : Int32} {rp : Int32} {rs : Nat} {ra : Nat} {rb : Int32} {rl : Nat} (hs : sm ≤ 40) (ho : ob ≤ 6) (h : sm = 40 ∨ ob = 6) : KM D (tyL cI cZ cJ) l yX4_choose wsX4_choose 1 21 [.ref (ad 0)] (wC ad cI cZ tg fn ki nu fi se ju op en sm ob be af pl rf rp rs ra rb rl) (some (.int (-1))) (wC ad cI cZ tg fn ki nu fi se ju op en sm ob be af pl rf rp rs ra rb rl) := by
  refine KM.of (cc := cX4_choose) (nL := 1) (ret := (some .int)) (by decide +kernel) rfl (Nat.le_of_ble_eq_true rfl) ?_
  have i4 : ∀ w ∈ u_ws RX4 TX4 4, w ∈ wsX4_choose := by decide +kernel
  refine v_aload_n 1 rfl dX4_choose_0 rfl rfl ?_
  refine v_get (ci := 4) (C := RX4) (T := TX4) (N := 4) (v := .ref (ad 4)) 4 rfl 0 1 dX4_choose_1 rfl (Nat.le_of_ble_eq_true rfl) i4 (by decide +kernel) rfl rfl ?_
  refine v_iconst (v := nI 4) 5 rfl dX4_choose_4 (by decide) ?_
  refine v_callF (n := 1) (q0 := 4) (ci := 1) 8 rfl (c_addOpeningNo (nI 4) hs ho h) gX4_choose_X1_addOpening rfl (by decide +kernel) rfl ⟨(Nat.le_of_ble_eq_true rfl), (Nat.le_of_ble_eq_true rfl)⟩ rfl (Nat.le_of_ble_eq_true rfl) rfl rfl rfl dX4_choose_5 ⟨Nat.zero_le _, Nat.zero_le _⟩ rfl ?_
  refine v_st (st' := [.int (-1)]) rfl ?_
  exact v_iret dX4_choose_8 rfl rfl rfl

set_option maxRecDepth 100000 in
set_option maxHeartbeats 4000000 in
theorem c_repeat {D : va_G} {cI cZ cJ : ClassId} {l : Launch} {ad : Nat → Nat} {tg : Nat → Int32} {fn : Nat → Int32} {ki : Nat → Int32} {nu : Nat → Int32} {fi : Nat → Int32} {se : Nat → Int32} {ju : Nat → Int32} {op : Nat → Int32} {en : Nat} {sm : Nat} {ob : Nat} {be : Nat → Int32} {af : Nat → Int32} {pl : Int32} {rf : Int32} {rp : Int32} {rs : Nat} {ra : Nat} {rb : Int32} {rl : Nat} (hs : sm < 40) (ho : ob < 6) (hen : en < 120) : KM D (tyL cI cZ cJ) l yX4_repeat wsX4_repeat 2 45 [.ref (ad 0)] (wC ad cI cZ tg fn ki nu fi se ju op en sm ob be af pl rf rp rs ra rb rl) (some (.int (nI sm))) (wC ad cI cZ tg fn (upd ki en (nI 7)) (upd nu en (nI sm)) (upd fi en (nI 0)) (upd se en (nI 0)) ju (upd op ob (nI en)) (en + 1) (sm + 1) (ob + 1) be af pl rf rp rs ra rb rl) := by
  refine KM.of (cc := cX4_repeat) (nL := 1) (ret := (some .int)) (by decide +kernel) rfl (Nat.le_of_ble_eq_true rfl) ?_
  have i4 : ∀ w ∈ u_ws RX4 TX4 4, w ∈ wsX4_repeat := by decide +kernel
  refine v_aload_n 1 rfl dX4_repeat_0 rfl rfl ?_
  refine v_get (ci := 4) (C := RX4) (T := TX4) (N := 4) (v := .ref (ad 4)) 4 rfl 0 1 dX4_repeat_1 rfl (Nat.le_of_ble_eq_true rfl) i4 (by decide +kernel) rfl rfl ?_
  refine v_bipush (v := nI 7) 6 rfl dX4_repeat_4 (by decide) ?_
  refine v_callF (n := 1) (q0 := 4) (ci := 1) 9 rfl (c_addOpening (nI 7) hs ho hen) gX4_repeat_X1_addOpening rfl (by decide +kernel) rfl ⟨(Nat.le_of_ble_eq_true rfl), (Nat.le_of_ble_eq_true rfl)⟩ rfl (Nat.le_of_ble_eq_true rfl) rfl rfl rfl dX4_repeat_6 ⟨Nat.zero_le _, Nat.zero_le _⟩ rfl ?_
  refine v_st (st' := [.int (nI sm)]) rfl ?_
  exact v_iret dX4_repeat_9 rfl rfl rfl

set_option maxRecDepth 100000 in
set_option maxHeartbeats 4000000 in
theorem c_repeatNo {D : va_G} {cI cZ cJ : ClassId} {l : Launch} {ad : Nat → Nat} {tg : Nat → Int32} {fn : Nat → Int32} {ki : Nat → Int32} {nu : Nat → Int32} {fi : Nat → Int32} {se : Nat → Int32} {ju : Nat → Int32} {op : Nat → Int32} {en : Nat} {sm : Nat} {ob : Nat} {be : Nat → Int32} {af : Nat → Int32} {pl : Int32} {rf : Int32} {rp : Int32} {rs : Nat} {ra : Nat} {rb : Int32} {rl : Nat} (hs : sm ≤ 40) (ho : ob ≤ 6) (h : sm = 40 ∨ ob = 6) : KM D (tyL cI cZ cJ) l yX4_repeat wsX4_repeat 1 21 [.ref (ad 0)] (wC ad cI cZ tg fn ki nu fi se ju op en sm ob be af pl rf rp rs ra rb rl) (some (.int (-1))) (wC ad cI cZ tg fn ki nu fi se ju op en sm ob be af pl rf rp rs ra rb rl) := by
  refine KM.of (cc := cX4_repeat) (nL := 1) (ret := (some .int)) (by decide +kernel) rfl (Nat.le_of_ble_eq_true rfl) ?_
  have i4 : ∀ w ∈ u_ws RX4 TX4 4, w ∈ wsX4_repeat := by decide +kernel
  refine v_aload_n 1 rfl dX4_repeat_0 rfl rfl ?_
  refine v_get (ci := 4) (C := RX4) (T := TX4) (N := 4) (v := .ref (ad 4)) 4 rfl 0 1 dX4_repeat_1 rfl (Nat.le_of_ble_eq_true rfl) i4 (by decide +kernel) rfl rfl ?_
  refine v_bipush (v := nI 7) 6 rfl dX4_repeat_4 (by decide) ?_
  refine v_callF (n := 1) (q0 := 4) (ci := 1) 9 rfl (c_addOpeningNo (nI 7) hs ho h) gX4_repeat_X1_addOpening rfl (by decide +kernel) rfl ⟨(Nat.le_of_ble_eq_true rfl), (Nat.le_of_ble_eq_true rfl)⟩ rfl (Nat.le_of_ble_eq_true rfl) rfl rfl rfl dX4_repeat_6 ⟨Nat.zero_le _, Nat.zero_le _⟩ rfl ?_
  refine v_st (st' := [.int (-1)]) rfl ?_
  exact v_iret dX4_repeat_9 rfl rfl rfl

set_option maxRecDepth 100000 in
set_option maxHeartbeats 4000000 in
theorem c_otherwise {D : va_G} {cI cZ cJ : ClassId} {l : Launch} {ad : Nat → Nat} {tg : Nat → Int32} {fn : Nat → Int32} {ki : Nat → Int32} {nu : Nat → Int32} {fi : Nat → Int32} {se : Nat → Int32} {ju : Nat → Int32} {op : Nat → Int32} {en : Nat} {sm : Nat} {ob : Nat} {be : Nat → Int32} {af : Nat → Int32} {pl : Int32} {rf : Int32} {rp : Int32} {rs : Nat} {ra : Nat} {rb : Int32} {rl : Nat} (b : Nat) (n : Int32) (h0 : 0 < ob) (ho : ob ≤ 6) (hb : op (ob - 1) = nI b) (hbe : b < en) (hen : en < 120) (hk : ki b = nI 4) (hn : nu b = n) : KM D (tyL cI cZ cJ) l yX4_otherwise wsX4_otherwise 3 63 [.ref (ad 0)] (wC ad cI cZ tg fn ki nu fi se ju op en sm ob be af pl rf rp rs ra rb rl) (some (.int (bI true))) (wC ad cI cZ tg fn (upd ki en (nI 5)) (upd nu en n) (upd fi en (nI 0)) (upd se en (nI 0)) (upd ju b (nI (en + 1))) (upd op (ob - 1) (nI en)) (en + 1) sm ob be af pl rf rp rs ra rb rl) := by
  refine KM.of (cc := cX4_otherwise) (nL := 1) (ret := (some .boolean)) (by decide +kernel) rfl (Nat.le_of_ble_eq_true rfl) ?_
  have i4 : ∀ w ∈ u_ws RX4 TX4 4, w ∈ wsX4_otherwise := by decide +kernel
  refine v_aload_n 1 rfl dX4_otherwise_0 rfl rfl ?_
  refine v_get (ci := 4) (C := RX4) (T := TX4) (N := 4) (v := .ref (ad 4)) 4 rfl 0 1 dX4_otherwise_1 rfl (Nat.le_of_ble_eq_true rfl) i4 (by decide +kernel) rfl rfl ?_
  refine v_callF (n := 0) (q0 := 4) (ci := 1) 7 rfl (c_beginElse b n h0 ho hb hbe hen hk hn) gX4_otherwise_X1_beginElse rfl (by decide +kernel) rfl ⟨(Nat.le_of_ble_eq_true rfl), (Nat.le_of_ble_eq_true rfl)⟩ rfl (Nat.le_of_ble_eq_true rfl) rfl rfl rfl dX4_otherwise_4 ⟨Nat.zero_le _, Nat.zero_le _⟩ rfl ?_
  refine v_st (st' := [.int (bI true)]) rfl ?_
  exact v_zret dX4_otherwise_7 rfl rfl rfl

set_option maxRecDepth 100000 in
set_option maxHeartbeats 4000000 in
theorem c_otherwise0 {D : va_G} {cI cZ cJ : ClassId} {l : Launch} {ad : Nat → Nat} {tg : Nat → Int32} {fn : Nat → Int32} {ki : Nat → Int32} {nu : Nat → Int32} {fi : Nat → Int32} {se : Nat → Int32} {ju : Nat → Int32} {op : Nat → Int32} {en : Nat} {sm : Nat} {ob : Nat} {be : Nat → Int32} {af : Nat → Int32} {pl : Int32} {rf : Int32} {rp : Int32} {rs : Nat} {ra : Nat} {rb : Int32} {rl : Nat} (h0 : ob = 0) : KM D (tyL cI cZ cJ) l yX4_otherwise wsX4_otherwise 3 63 [.ref (ad 0)] (wC ad cI cZ tg fn ki nu fi se ju op en sm ob be af pl rf rp rs ra rb rl) (some (.int (bI false))) (wC ad cI cZ tg fn ki nu fi se ju op en sm ob be af pl rf rp rs ra rb rl) := by
  refine KM.of (cc := cX4_otherwise) (nL := 1) (ret := (some .boolean)) (by decide +kernel) rfl (Nat.le_of_ble_eq_true rfl) ?_
  have i4 : ∀ w ∈ u_ws RX4 TX4 4, w ∈ wsX4_otherwise := by decide +kernel
  refine v_aload_n 1 rfl dX4_otherwise_0 rfl rfl ?_
  refine v_get (ci := 4) (C := RX4) (T := TX4) (N := 4) (v := .ref (ad 4)) 4 rfl 0 1 dX4_otherwise_1 rfl (Nat.le_of_ble_eq_true rfl) i4 (by decide +kernel) rfl rfl ?_
  refine v_callF (n := 0) (q0 := 4) (ci := 1) 7 rfl (c_beginElse0 h0) gX4_otherwise_X1_beginElse rfl (by decide +kernel) rfl ⟨(Nat.le_of_ble_eq_true rfl), (Nat.le_of_ble_eq_true rfl)⟩ rfl (Nat.le_of_ble_eq_true rfl) rfl rfl rfl dX4_otherwise_4 ⟨Nat.zero_le _, Nat.zero_le _⟩ rfl ?_
  refine v_st (st' := [.int (bI false)]) rfl ?_
  exact v_zret dX4_otherwise_7 rfl rfl rfl

set_option maxRecDepth 100000 in
set_option maxHeartbeats 4000000 in
theorem c_otherwiseNo {D : va_G} {cI cZ cJ : ClassId} {l : Launch} {ad : Nat → Nat} {tg : Nat → Int32} {fn : Nat → Int32} {ki : Nat → Int32} {nu : Nat → Int32} {fi : Nat → Int32} {se : Nat → Int32} {ju : Nat → Int32} {op : Nat → Int32} {en : Nat} {sm : Nat} {ob : Nat} {be : Nat → Int32} {af : Nat → Int32} {pl : Int32} {rf : Int32} {rp : Int32} {rs : Nat} {ra : Nat} {rb : Int32} {rl : Nat} (b d : Nat) (h0 : 0 < ob) (ho : ob ≤ 6) (hb : op (ob - 1) = nI b) (hbe : b < en) (hen : en ≤ 120) (hk : ki b = nI d) (hd : d < 9) (hd4 : d ≠ 4) : KM D (tyL cI cZ cJ) l yX4_otherwise wsX4_otherwise 3 63 [.ref (ad 0)] (wC ad cI cZ tg fn ki nu fi se ju op en sm ob be af pl rf rp rs ra rb rl) (some (.int (bI false))) (wC ad cI cZ tg fn ki nu fi se ju op en sm ob be af pl rf rp rs ra rb rl) := by
  refine KM.of (cc := cX4_otherwise) (nL := 1) (ret := (some .boolean)) (by decide +kernel) rfl (Nat.le_of_ble_eq_true rfl) ?_
  have i4 : ∀ w ∈ u_ws RX4 TX4 4, w ∈ wsX4_otherwise := by decide +kernel
  refine v_aload_n 1 rfl dX4_otherwise_0 rfl rfl ?_
  refine v_get (ci := 4) (C := RX4) (T := TX4) (N := 4) (v := .ref (ad 4)) 4 rfl 0 1 dX4_otherwise_1 rfl (Nat.le_of_ble_eq_true rfl) i4 (by decide +kernel) rfl rfl ?_
  refine v_callF (n := 0) (q0 := 4) (ci := 1) 7 rfl (c_beginElseNo b d h0 ho hb hbe hen hk hd hd4) gX4_otherwise_X1_beginElse rfl (by decide +kernel) rfl ⟨(Nat.le_of_ble_eq_true rfl), (Nat.le_of_ble_eq_true rfl)⟩ rfl (Nat.le_of_ble_eq_true rfl) rfl rfl rfl dX4_otherwise_4 ⟨Nat.zero_le _, Nat.zero_le _⟩ rfl ?_
  refine v_st (st' := [.int (bI false)]) rfl ?_
  exact v_zret dX4_otherwise_7 rfl rfl rfl

set_option maxRecDepth 100000 in
set_option maxHeartbeats 4000000 in
theorem c_end0 {D : va_G} {cI cZ cJ : ClassId} {l : Launch} {ad : Nat → Nat} {tg : Nat → Int32} {fn : Nat → Int32} {ki : Nat → Int32} {nu : Nat → Int32} {fi : Nat → Int32} {se : Nat → Int32} {ju : Nat → Int32} {op : Nat → Int32} {en : Nat} {sm : Nat} {ob : Nat} {be : Nat → Int32} {af : Nat → Int32} {pl : Int32} {rf : Int32} {rp : Int32} {rs : Nat} {ra : Nat} {rb : Int32} {rl : Nat} (h0 : ob = 0) : KM D (tyL cI cZ cJ) l yX4_end wsX4_end 4 85 [.ref (ad 0)] (wC ad cI cZ tg fn ki nu fi se ju op en sm ob be af pl rf rp rs ra rb rl) (some (.int (bI false))) (wC ad cI cZ tg fn ki nu fi se ju op en sm ob be af pl rf rp rs ra rb rl) := by
  refine KM.of (cc := cX4_end) (nL := 1) (ret := (some .boolean)) (by decide +kernel) rfl (Nat.le_of_ble_eq_true rfl) ?_
  have i4 : ∀ w ∈ u_ws RX4 TX4 4, w ∈ wsX4_end := by decide +kernel
  refine v_aload_n 1 rfl dX4_end_0 rfl rfl ?_
  refine v_get (ci := 4) (C := RX4) (T := TX4) (N := 4) (v := .ref (ad 4)) 4 rfl 0 1 dX4_end_1 rfl (Nat.le_of_ble_eq_true rfl) i4 (by decide +kernel) rfl rfl ?_
  refine v_callF (n := 0) (q0 := 4) (ci := 1) 7 rfl (c_endBlock0 h0) gX4_end_X1_endBlock rfl (by decide +kernel) rfl ⟨(Nat.le_of_ble_eq_true rfl), (Nat.le_of_ble_eq_true rfl)⟩ rfl (Nat.le_of_ble_eq_true rfl) rfl rfl rfl dX4_end_4 ⟨Nat.zero_le _, Nat.zero_le _⟩ rfl ?_
  refine v_st (st' := [.int (bI false)]) rfl ?_
  exact v_zret dX4_end_7 rfl rfl rfl

set_option maxRecDepth 100000 in
set_option maxHeartbeats 4000000 in
theorem c_endW {D : va_G} {cI cZ cJ : ClassId} {l : Launch} {ad : Nat → Nat} {tg : Nat → Int32} {fn : Nat → Int32} {ki : Nat → Int32} {nu : Nat → Int32} {fi : Nat → Int32} {se : Nat → Int32} {ju : Nat → Int32} {op : Nat → Int32} {en : Nat} {sm : Nat} {ob : Nat} {be : Nat → Int32} {af : Nat → Int32} {pl : Int32} {rf : Int32} {rp : Int32} {rs : Nat} {ra : Nat} {rb : Int32} {rl : Nat} (b : Nat) (n : Int32) (h0 : 0 < ob) (ho : ob ≤ 6) (hb : op (ob - 1) = nI b) (hbe : b < en) (hen : en < 120) (hk : ki b = nI 7) (hn : nu b = n) : KM D (tyL cI cZ cJ) l yX4_end wsX4_end 4 85 [.ref (ad 0)] (wC ad cI cZ tg fn ki nu fi se ju op en sm ob be af pl rf rp rs ra rb rl) (some (.int (bI true))) (wC ad cI cZ tg fn (upd ki en (nI 8)) (upd nu en n) (upd fi en (nI 0)) (upd se en (nI 0)) (upd (upd ju b (nI (en + 1))) en (nI b)) op (en + 1) sm (ob - 1) be af pl rf rp rs ra rb rl) := by
  refine KM.of (cc := cX4_end) (nL := 1) (ret := (some .boolean)) (by decide +kernel) rfl (Nat.le_of_ble_eq_true rfl) ?_
  have i4 : ∀ w ∈ u_ws RX4 TX4 4, w ∈ wsX4_end := by decide +kernel
  refine v_aload_n 1 rfl dX4_end_0 rfl rfl ?_
  refine v_get (ci := 4) (C := RX4) (T := TX4) (N := 4) (v := .ref (ad 4)) 4 rfl 0 1 dX4_end_1 rfl (Nat.le_of_ble_eq_true rfl) i4 (by decide +kernel) rfl rfl ?_
  refine v_callF (n := 0) (q0 := 4) (ci := 1) 7 rfl (c_endBlockW b n h0 ho hb hbe hen hk hn) gX4_end_X1_endBlock rfl (by decide +kernel) rfl ⟨(Nat.le_of_ble_eq_true rfl), (Nat.le_of_ble_eq_true rfl)⟩ rfl (Nat.le_of_ble_eq_true rfl) rfl rfl rfl dX4_end_4 ⟨Nat.zero_le _, Nat.zero_le _⟩ rfl ?_
  refine v_st (st' := [.int (bI true)]) rfl ?_
  exact v_zret dX4_end_7 rfl rfl rfl

set_option maxRecDepth 100000 in
set_option maxHeartbeats 4000000 in
theorem c_endE {D : va_G} {cI cZ cJ : ClassId} {l : Launch} {ad : Nat → Nat} {tg : Nat → Int32} {fn : Nat → Int32} {ki : Nat → Int32} {nu : Nat → Int32} {fi : Nat → Int32} {se : Nat → Int32} {ju : Nat → Int32} {op : Nat → Int32} {en : Nat} {sm : Nat} {ob : Nat} {be : Nat → Int32} {af : Nat → Int32} {pl : Int32} {rf : Int32} {rp : Int32} {rs : Nat} {ra : Nat} {rb : Int32} {rl : Nat} (b : Nat) (n : Int32) (h0 : 0 < ob) (ho : ob ≤ 6) (hb : op (ob - 1) = nI b) (hbe : b < en) (hen : en < 120) (hk : ki b = nI 5) (hn : nu b = n) : KM D (tyL cI cZ cJ) l yX4_end wsX4_end 4 85 [.ref (ad 0)] (wC ad cI cZ tg fn ki nu fi se ju op en sm ob be af pl rf rp rs ra rb rl) (some (.int (bI true))) (wC ad cI cZ tg fn (upd ki en (nI 6)) (upd nu en n) (upd fi en (nI 0)) (upd se en (nI 0)) (upd ju b (nI (en + 1))) op (en + 1) sm (ob - 1) be af pl rf rp rs ra rb rl) := by
  refine KM.of (cc := cX4_end) (nL := 1) (ret := (some .boolean)) (by decide +kernel) rfl (Nat.le_of_ble_eq_true rfl) ?_
  have i4 : ∀ w ∈ u_ws RX4 TX4 4, w ∈ wsX4_end := by decide +kernel
  refine v_aload_n 1 rfl dX4_end_0 rfl rfl ?_
  refine v_get (ci := 4) (C := RX4) (T := TX4) (N := 4) (v := .ref (ad 4)) 4 rfl 0 1 dX4_end_1 rfl (Nat.le_of_ble_eq_true rfl) i4 (by decide +kernel) rfl rfl ?_
  refine v_callF (n := 0) (q0 := 4) (ci := 1) 7 rfl (c_endBlockE b n h0 ho hb hbe hen hk hn) gX4_end_X1_endBlock rfl (by decide +kernel) rfl ⟨(Nat.le_of_ble_eq_true rfl), (Nat.le_of_ble_eq_true rfl)⟩ rfl (Nat.le_of_ble_eq_true rfl) rfl rfl rfl dX4_end_4 ⟨Nat.zero_le _, Nat.zero_le _⟩ rfl ?_
  refine v_st (st' := [.int (bI true)]) rfl ?_
  exact v_zret dX4_end_7 rfl rfl rfl

set_option maxRecDepth 100000 in
set_option maxHeartbeats 4000000 in
theorem c_endI {D : va_G} {cI cZ cJ : ClassId} {l : Launch} {ad : Nat → Nat} {tg : Nat → Int32} {fn : Nat → Int32} {ki : Nat → Int32} {nu : Nat → Int32} {fi : Nat → Int32} {se : Nat → Int32} {ju : Nat → Int32} {op : Nat → Int32} {en : Nat} {sm : Nat} {ob : Nat} {be : Nat → Int32} {af : Nat → Int32} {pl : Int32} {rf : Int32} {rp : Int32} {rs : Nat} {ra : Nat} {rb : Int32} {rl : Nat} (b : Nat) (n : Int32) (h0 : 0 < ob) (ho : ob ≤ 6) (hb : op (ob - 1) = nI b) (hbe : b < en) (hen : en + 1 < 120) (hk : ki b = nI 4) (hn : nu b = n) : KM D (tyL cI cZ cJ) l yX4_end wsX4_end 4 85 [.ref (ad 0)] (wC ad cI cZ tg fn ki nu fi se ju op en sm ob be af pl rf rp rs ra rb rl) (some (.int (bI true))) (wC ad cI cZ tg fn (upd (upd ki en (nI 5)) (en + 1) (nI 6)) (upd (upd nu en n) (en + 1) n) (upd (upd fi en (nI 0)) (en + 1) (nI 0)) (upd (upd se en (nI 0)) (en + 1) (nI 0)) (upd (upd ju b (nI (en + 1))) en (nI (en + 1 + 1))) (upd op (ob - 1) (nI en)) (en + 1 + 1) sm (ob - 1) be af pl rf rp rs ra rb rl) := by
  refine KM.of (cc := cX4_end) (nL := 1) (ret := (some .boolean)) (by decide +kernel) rfl (Nat.le_of_ble_eq_true rfl) ?_
  have i4 : ∀ w ∈ u_ws RX4 TX4 4, w ∈ wsX4_end := by decide +kernel
  refine v_aload_n 1 rfl dX4_end_0 rfl rfl ?_
  refine v_get (ci := 4) (C := RX4) (T := TX4) (N := 4) (v := .ref (ad 4)) 4 rfl 0 1 dX4_end_1 rfl (Nat.le_of_ble_eq_true rfl) i4 (by decide +kernel) rfl rfl ?_
  refine v_callF (n := 0) (q0 := 4) (ci := 1) 7 rfl (c_endBlockI b n h0 ho hb hbe hen hk hn) gX4_end_X1_endBlock rfl (by decide +kernel) rfl ⟨(Nat.le_of_ble_eq_true rfl), (Nat.le_of_ble_eq_true rfl)⟩ rfl (Nat.le_of_ble_eq_true rfl) rfl rfl rfl dX4_end_4 ⟨Nat.zero_le _, Nat.zero_le _⟩ rfl ?_
  refine v_st (st' := [.int (bI true)]) rfl ?_
  exact v_zret dX4_end_7 rfl rfl rfl

set_option maxRecDepth 100000 in
set_option maxHeartbeats 4000000 in
theorem c_clear {D : va_G} {cI cZ cJ : ClassId} {l : Launch} {ad : Nat → Nat} {tg : Nat → Int32} {fn : Nat → Int32} {ki : Nat → Int32} {nu : Nat → Int32} {fi : Nat → Int32} {se : Nat → Int32} {ju : Nat → Int32} {op : Nat → Int32} {en : Nat} {sm : Nat} {ob : Nat} {be : Nat → Int32} {af : Nat → Int32} {pl : Int32} {rf : Int32} {rp : Int32} {rs : Nat} {ra : Nat} {rb : Int32} {rl : Nat}  : KM D (tyL cI cZ cJ) l yX4_clear wsX4_clear 1 20 [.ref (ad 0)] (wC ad cI cZ tg fn ki nu fi se ju op en sm ob be af pl rf rp rs ra rb rl) none (wC ad cI cZ tg fn ki nu fi se ju op 0 0 0 be af pl rf rp rs ra rb rl) := by
  refine KM.of (cc := cX4_clear) (nL := 1) (ret := none) (by decide +kernel) rfl (Nat.le_of_ble_eq_true rfl) ?_
  have i4 : ∀ w ∈ u_ws RX4 TX4 4, w ∈ wsX4_clear := by decide +kernel
  refine v_aload_n 1 rfl dX4_clear_0 rfl rfl ?_
  refine v_get (ci := 4) (C := RX4) (T := TX4) (N := 4) (v := .ref (ad 4)) 4 rfl 0 1 dX4_clear_1 rfl (Nat.le_of_ble_eq_true rfl) i4 (by decide +kernel) rfl rfl ?_
  refine v_callF (n := 0) (q0 := 4) (ci := 1) 7 rfl (c_removeAll) gX4_clear_X1_removeAll rfl (by decide +kernel) rfl ⟨(Nat.le_of_ble_eq_true rfl), (Nat.le_of_ble_eq_true rfl)⟩ rfl (Nat.le_of_ble_eq_true rfl) rfl rfl rfl dX4_clear_4 ⟨Nat.zero_le _, Nat.zero_le _⟩ rfl ?_
  refine v_st (st' := []) rfl ?_
  exact v_vret dX4_clear_7 rfl rfl rfl

set_option maxRecDepth 100000 in
set_option maxHeartbeats 4000000 in
theorem c_size {D : va_G} {cI cZ cJ : ClassId} {l : Launch} {ad : Nat → Nat} {tg : Nat → Int32} {fn : Nat → Int32} {ki : Nat → Int32} {nu : Nat → Int32} {fi : Nat → Int32} {se : Nat → Int32} {ju : Nat → Int32} {op : Nat → Int32} {en : Nat} {sm : Nat} {ob : Nat} {be : Nat → Int32} {af : Nat → Int32} {pl : Int32} {rf : Int32} {rp : Int32} {rs : Nat} {ra : Nat} {rb : Int32} {rl : Nat}  : KM D (tyL cI cZ cJ) l yX4_size wsX4_size 0 0 [.ref (ad 0)] (wC ad cI cZ tg fn ki nu fi se ju op en sm ob be af pl rf rp rs ra rb rl) (some (.int (nI sm))) (wC ad cI cZ tg fn ki nu fi se ju op en sm ob be af pl rf rp rs ra rb rl) := by
  refine KM.of (cc := cX4_size) (nL := 1) (ret := (some .int)) (by decide +kernel) rfl (Nat.le_of_ble_eq_true rfl) ?_
  have i1 : ∀ w ∈ u_ws RX1 TX1 9, w ∈ wsX4_size := by decide +kernel
  have i4 : ∀ w ∈ u_ws RX4 TX4 4, w ∈ wsX4_size := by decide +kernel
  refine v_aload_n 1 rfl dX4_size_0 rfl rfl ?_
  refine v_get (ci := 4) (C := RX4) (T := TX4) (N := 4) (v := .ref (ad 4)) 4 rfl 0 1 dX4_size_1 rfl (Nat.le_of_ble_eq_true rfl) i4 (by decide +kernel) rfl rfl ?_
  refine v_getN (ci := 1) (C := RX1) (T := TX1) (N := 9) (v := .int (nI sm)) 7 rfl 4 7 dX4_size_4 rfl (Nat.le_of_ble_eq_true rfl) i1 (by decide +kernel) rfl rfl ?_
  exact v_iret dX4_size_7 rfl rfl rfl

set_option maxRecDepth 100000 in
set_option maxHeartbeats 4000000 in
theorem c_check {D : va_G} {cI cZ cJ : ClassId} {l : Launch} {ad : Nat → Nat} {tg : Nat → Int32} {fn : Nat → Int32} {ki : Nat → Int32} {nu : Nat → Int32} {fi : Nat → Int32} {se : Nat → Int32} {ju : Nat → Int32} {op : Nat → Int32} {en : Nat} {sm : Nat} {ob : Nat} {be : Nat → Int32} {af : Nat → Int32} {pl : Int32} {rf : Int32} {rp : Int32} {rs : Nat} {ra : Nat} {rb : Int32} {rl : Nat} (tn : Nat → Nat) (fb : Nat → Bool) (J : Nat → Nat → (Nat → Int32) → (Nat → Int32) → Prop) (htg : ∀ i, i < 96 → tg i = oI (tn i) ∧ tn i ≤ 5) (hfn : ∀ o, o < 24 → fn o = bI (fb o)) (hen : en ≤ 120) (hJ : ∀ t A be af, t < en → J t A be af → Saf ki nu fi se t A be af ∧ ((cstA tn fb ki nu fi se t A be af).1 = 0 → J (t + 1) (cstA tn fb ki nu fi se t A be af).2.1 (cstA tn fb ki nu fi se t A be af).2.2.1 (cstA tn fb ki nu fi se t A be af).2.2.2)) (hJe : ∀ t A be af, J t A be af → A < 2 ^ 20 ∧ ∀ v, v < 4 → hb A v ≤ 24) (hob : ob = 0) (hJ0 : J 0 0 (fillF be 40 (-1)) af) : KM D (tyL cI cZ cJ) l yX4_check wsX4_check 5 116 [.ref (ad 0)] (wC ad cI cZ tg fn ki nu fi se ju op en sm ob be af pl rf rp rs ra rb rl) (some (.int (nI (crun tn fb ki nu fi se sm en 0 0 (fillF be 40 (-1)) af).1))) (wC ad cI cZ tg fn ki nu fi se ju op en sm ob ((crun tn fb ki nu fi se sm en 0 0 (fillF be 40 (-1)) af).2.2.1) ((crun tn fb ki nu fi se sm en 0 0 (fillF be 40 (-1)) af).2.2.2) ((crun tn fb ki nu fi se sm en 0 0 (fillF be 40 (-1)) af).2.1) rf rp rs ra rb rl) := by
  refine KM.of (cc := cX4_check) (nL := 1) (ret := (some .int)) (by decide +kernel) rfl (Nat.le_of_ble_eq_true rfl) ?_
  have i4 : ∀ w ∈ u_ws RX4 TX4 4, w ∈ wsX4_check := by decide +kernel
  refine v_aload_n 1 rfl dX4_check_0 rfl rfl ?_
  refine v_get (ci := 4) (C := RX4) (T := TX4) (N := 4) (v := .ref (ad 11)) 4 rfl 0 2 dX4_check_1 rfl (Nat.le_of_ble_eq_true rfl) i4 (by decide +kernel) rfl rfl ?_
  refine v_callF (n := 0) (q0 := 11) (ci := 0) 7 rfl (c_checkProgram tn fb J htg hfn hen hJ hJe hob hJ0) gX4_check_X0_checkProgram rfl (by decide +kernel) rfl ⟨(Nat.le_of_ble_eq_true rfl), (Nat.le_of_ble_eq_true rfl)⟩ rfl (Nat.le_of_ble_eq_true rfl) rfl rfl rfl dX4_check_4 ⟨Nat.zero_le _, Nat.zero_le _⟩ rfl ?_
  refine v_st (st' := [.int (nI ((crun tn fb ki nu fi se sm en 0 0 (fillF be 40 (-1)) af).1))]) rfl ?_
  exact v_iret dX4_check_7 rfl rfl rfl

set_option maxRecDepth 100000 in
set_option maxHeartbeats 4000000 in
theorem c_check8 {D : va_G} {cI cZ cJ : ClassId} {l : Launch} {ad : Nat → Nat} {tg : Nat → Int32} {fn : Nat → Int32} {ki : Nat → Int32} {nu : Nat → Int32} {fi : Nat → Int32} {se : Nat → Int32} {ju : Nat → Int32} {op : Nat → Int32} {en : Nat} {sm : Nat} {ob : Nat} {be : Nat → Int32} {af : Nat → Int32} {pl : Int32} {rf : Int32} {rp : Int32} {rs : Nat} {ra : Nat} {rb : Int32} {rl : Nat} (hob : 0 < ob) (ho : ob ≤ 6) : KM D (tyL cI cZ cJ) l yX4_check wsX4_check 2 46 [.ref (ad 0)] (wC ad cI cZ tg fn ki nu fi se ju op en sm ob be af pl rf rp rs ra rb rl) (some (.int (nI 8))) (wC ad cI cZ tg fn ki nu fi se ju op en sm ob (fillF be 40 (-1)) af (nI sm) rf rp rs ra rb rl) := by
  refine KM.of (cc := cX4_check) (nL := 1) (ret := (some .int)) (by decide +kernel) rfl (Nat.le_of_ble_eq_true rfl) ?_
  have i4 : ∀ w ∈ u_ws RX4 TX4 4, w ∈ wsX4_check := by decide +kernel
  refine v_aload_n 1 rfl dX4_check_0 rfl rfl ?_
  refine v_get (ci := 4) (C := RX4) (T := TX4) (N := 4) (v := .ref (ad 11)) 4 rfl 0 2 dX4_check_1 rfl (Nat.le_of_ble_eq_true rfl) i4 (by decide +kernel) rfl rfl ?_
  refine v_callF (n := 0) (q0 := 11) (ci := 0) 7 rfl (c_checkProgram8 hob ho) gX4_check_X0_checkProgram rfl (by decide +kernel) rfl ⟨(Nat.le_of_ble_eq_true rfl), (Nat.le_of_ble_eq_true rfl)⟩ rfl (Nat.le_of_ble_eq_true rfl) rfl rfl rfl dX4_check_4 ⟨Nat.zero_le _, Nat.zero_le _⟩ rfl ?_
  refine v_st (st' := [.int (nI 8)]) rfl ?_
  exact v_iret dX4_check_7 rfl rfl rfl

set_option maxRecDepth 100000 in
set_option maxHeartbeats 4000000 in
theorem c_faultAt {D : va_G} {cI cZ cJ : ClassId} {l : Launch} {ad : Nat → Nat} {tg : Nat → Int32} {fn : Nat → Int32} {ki : Nat → Int32} {nu : Nat → Int32} {fi : Nat → Int32} {se : Nat → Int32} {ju : Nat → Int32} {op : Nat → Int32} {en : Nat} {sm : Nat} {ob : Nat} {be : Nat → Int32} {af : Nat → Int32} {pl : Int32} {rf : Int32} {rp : Int32} {rs : Nat} {ra : Nat} {rb : Int32} {rl : Nat}  : KM D (tyL cI cZ cJ) l yX4_faultAt wsX4_faultAt 0 0 [.ref (ad 0)] (wC ad cI cZ tg fn ki nu fi se ju op en sm ob be af pl rf rp rs ra rb rl) (some (.int pl)) (wC ad cI cZ tg fn ki nu fi se ju op en sm ob be af pl rf rp rs ra rb rl) := by
  refine KM.of (cc := cX4_faultAt) (nL := 1) (ret := (some .int)) (by decide +kernel) rfl (Nat.le_of_ble_eq_true rfl) ?_
  have i0 : ∀ w ∈ u_ws RX0 TX0 5, w ∈ wsX4_faultAt := by decide +kernel
  have i4 : ∀ w ∈ u_ws RX4 TX4 4, w ∈ wsX4_faultAt := by decide +kernel
  refine v_aload_n 1 rfl dX4_faultAt_0 rfl rfl ?_
  refine v_get (ci := 4) (C := RX4) (T := TX4) (N := 4) (v := .ref (ad 11)) 4 rfl 0 2 dX4_faultAt_1 rfl (Nat.le_of_ble_eq_true rfl) i4 (by decide +kernel) rfl rfl ?_
  refine v_getN (ci := 0) (C := RX0) (T := TX0) (N := 5) (v := .int pl) 7 rfl 11 4 dX4_faultAt_4 rfl (Nat.le_of_ble_eq_true rfl) i0 (by decide +kernel) rfl rfl ?_
  exact v_iret dX4_faultAt_7 rfl rfl rfl

set_option maxRecDepth 100000 in
set_option maxHeartbeats 4000000 in
theorem c_held {D : va_G} {cI cZ cJ : ClassId} {l : Launch} {ad : Nat → Nat} {tg : Nat → Int32} {fn : Nat → Int32} {ki : Nat → Int32} {nu : Nat → Int32} {fi : Nat → Int32} {se : Nat → Int32} {ju : Nat → Int32} {op : Nat → Int32} {en : Nat} {sm : Nat} {ob : Nat} {be : Nat → Int32} {af : Nat → Int32} {pl : Int32} {rf : Int32} {rp : Int32} {rs : Nat} {ra : Nat} {rb : Int32} {rl : Nat} (n v A : Nat) (hn : n < 40) (hv : v < 4) (hA : A < 2 ^ 20) (hB : be n = nI A) : KM D (tyL cI cZ cJ) l yX4_held wsX4_held 2 42 [.ref (ad 0), .int (nI n), .int (nI v)] (wC ad cI cZ tg fn ki nu fi se ju op en sm ob be af pl rf rp rs ra rb rl) (some (.int (oI (hb A v)))) (wC ad cI cZ tg fn ki nu fi se ju op en sm ob be af pl rf rp rs ra rb rl) := by
  refine KM.of (cc := cX4_held) (nL := 4) (ret := (some .int)) (by decide +kernel) rfl (Nat.le_of_ble_eq_true rfl) ?_
  have i4 : ∀ w ∈ u_ws RX4 TX4 4, w ∈ wsX4_held := by decide +kernel
  refine v_aload_n 1 rfl dX4_held_0 rfl rfl ?_
  refine v_get (ci := 4) (C := RX4) (T := TX4) (N := 4) (v := .ref (ad 11)) 4 rfl 0 2 dX4_held_1 rfl (Nat.le_of_ble_eq_true rfl) i4 (by decide +kernel) rfl rfl ?_
  refine v_iload_n 5 rfl dX4_held_4 rfl rfl ?_
  refine v_callF (n := 1) (q0 := 11) (ci := 0) 8 rfl (c_heldBefore n (nI A) hn hB) gX4_held_X0_heldBefore rfl (by decide +kernel) rfl ⟨(Nat.le_of_ble_eq_true rfl), (Nat.le_of_ble_eq_true rfl)⟩ rfl (Nat.le_of_ble_eq_true rfl) rfl rfl rfl dX4_held_5 ⟨Nat.zero_le _, Nat.zero_le _⟩ rfl ?_
  refine v_st (st' := [.int (nI A)]) rfl ?_
  refine v_istore_n (lv' := [(3, .int (nI A)), (0, .ref (ad 0)), (1, .int (nI n)), (2, .int (nI v))]) 9 rfl dX4_held_8 rfl (Nat.le_of_ble_eq_true rfl) rfl ?_
  refine v_iload_n 10 rfl dX4_held_9 rfl rfl ?_
  refine v_iconst (v := -1) 11 rfl dX4_held_10 (by decide) ?_
  refine v_icmp_eq 21 14 rfl dX4_held_11 (by decide) (fun q => False.elim (by exact absurd q (nI_ne_m1 (by omega)))) (fun c11 => ?_)
  refine v_iload_n 15 rfl dX4_held_14 rfl rfl ?_
  refine v_callS (n := 1) 18 rfl (c_isVariableT v (by omega)) gX4_held_X4_isVariable rfl (by decide +kernel) rfl ⟨(Nat.le_of_ble_eq_true rfl), (Nat.le_of_ble_eq_true rfl)⟩ rfl (Nat.le_of_ble_eq_true rfl) dX4_held_15 ⟨Nat.zero_le _, Nat.zero_le _⟩ ?_
  refine v_st (st' := [.int (bI true)]) rfl ?_
  refine v_if_neB (b := true) 26 21 rfl dX4_held_18 (by decide) (fun c18 => ?_) (fun q => False.elim (by cases q))
  refine v_iload_n 27 rfl dX4_held_26 rfl rfl ?_
  refine v_iload_n 28 rfl dX4_held_27 rfl rfl ?_
  refine v_callS (n := 2) 31 rfl (c_heldBy A v (by omega) (by omega)) gX4_held_X4_heldBy rfl (by decide +kernel) rfl ⟨(Nat.le_of_ble_eq_true rfl), (Nat.le_of_ble_eq_true rfl)⟩ rfl (Nat.le_of_ble_eq_true rfl) dX4_held_28 ⟨Nat.zero_le _, Nat.zero_le _⟩ ?_
  refine v_st (st' := [.int (oI (hb A v))]) rfl ?_
  exact v_iret dX4_held_31 rfl rfl rfl

set_option maxRecDepth 100000 in
set_option maxHeartbeats 4000000 in
theorem c_heldM {D : va_G} {cI cZ cJ : ClassId} {l : Launch} {ad : Nat → Nat} {tg : Nat → Int32} {fn : Nat → Int32} {ki : Nat → Int32} {nu : Nat → Int32} {fi : Nat → Int32} {se : Nat → Int32} {ju : Nat → Int32} {op : Nat → Int32} {en : Nat} {sm : Nat} {ob : Nat} {be : Nat → Int32} {af : Nat → Int32} {pl : Int32} {rf : Int32} {rp : Int32} {rs : Nat} {ra : Nat} {rb : Int32} {rl : Nat} (n : Nat) (v : Int32) (hn : n < 40) (hB : be n = -1) : KM D (tyL cI cZ cJ) l yX4_held wsX4_held 2 42 [.ref (ad 0), .int (nI n), .int v] (wC ad cI cZ tg fn ki nu fi se ju op en sm ob be af pl rf rp rs ra rb rl) (some (.int (-2))) (wC ad cI cZ tg fn ki nu fi se ju op en sm ob be af pl rf rp rs ra rb rl) := by
  refine KM.of (cc := cX4_held) (nL := 4) (ret := (some .int)) (by decide +kernel) rfl (Nat.le_of_ble_eq_true rfl) ?_
  have i4 : ∀ w ∈ u_ws RX4 TX4 4, w ∈ wsX4_held := by decide +kernel
  refine v_aload_n 1 rfl dX4_held_0 rfl rfl ?_
  refine v_get (ci := 4) (C := RX4) (T := TX4) (N := 4) (v := .ref (ad 11)) 4 rfl 0 2 dX4_held_1 rfl (Nat.le_of_ble_eq_true rfl) i4 (by decide +kernel) rfl rfl ?_
  refine v_iload_n 5 rfl dX4_held_4 rfl rfl ?_
  refine v_callF (n := 1) (q0 := 11) (ci := 0) 8 rfl (c_heldBefore n (-1) hn hB) gX4_held_X0_heldBefore rfl (by decide +kernel) rfl ⟨(Nat.le_of_ble_eq_true rfl), (Nat.le_of_ble_eq_true rfl)⟩ rfl (Nat.le_of_ble_eq_true rfl) rfl rfl rfl dX4_held_5 ⟨Nat.zero_le _, Nat.zero_le _⟩ rfl ?_
  refine v_st (st' := [.int (-1)]) rfl ?_
  refine v_istore_n (lv' := [(3, .int (-1)), (0, .ref (ad 0)), (1, .int (nI n)), (2, .int v)]) 9 rfl dX4_held_8 rfl (Nat.le_of_ble_eq_true rfl) rfl ?_
  refine v_iload_n 10 rfl dX4_held_9 rfl rfl ?_
  refine v_iconst (v := -1) 11 rfl dX4_held_10 (by decide) ?_
  refine v_icmp_eq 21 14 rfl dX4_held_11 (by decide) (fun c11 => ?_) (fun q => False.elim (by exact absurd rfl q))
  refine v_bipush (v := -2) 23 rfl dX4_held_21 (by decide) ?_
  refine v_goto 31 dX4_held_23 (by decide) ?_
  exact v_iret dX4_held_31 rfl rfl rfl

set_option maxRecDepth 100000 in
set_option maxHeartbeats 4000000 in
theorem c_heldV {D : va_G} {cI cZ cJ : ClassId} {l : Launch} {ad : Nat → Nat} {tg : Nat → Int32} {fn : Nat → Int32} {ki : Nat → Int32} {nu : Nat → Int32} {fi : Nat → Int32} {se : Nat → Int32} {ju : Nat → Int32} {op : Nat → Int32} {en : Nat} {sm : Nat} {ob : Nat} {be : Nat → Int32} {af : Nat → Int32} {pl : Int32} {rf : Int32} {rp : Int32} {rs : Nat} {ra : Nat} {rb : Int32} {rl : Nat} (n A : Nat) (v : Int32) (hn : n < 40) (hA : A < 2 ^ 20) (hv : bel v (nI 4) = false) (hB : be n = nI A) : KM D (tyL cI cZ cJ) l yX4_held wsX4_held 2 42 [.ref (ad 0), .int (nI n), .int v] (wC ad cI cZ tg fn ki nu fi se ju op en sm ob be af pl rf rp rs ra rb rl) (some (.int (-2))) (wC ad cI cZ tg fn ki nu fi se ju op en sm ob be af pl rf rp rs ra rb rl) := by
  refine KM.of (cc := cX4_held) (nL := 4) (ret := (some .int)) (by decide +kernel) rfl (Nat.le_of_ble_eq_true rfl) ?_
  have i4 : ∀ w ∈ u_ws RX4 TX4 4, w ∈ wsX4_held := by decide +kernel
  refine v_aload_n 1 rfl dX4_held_0 rfl rfl ?_
  refine v_get (ci := 4) (C := RX4) (T := TX4) (N := 4) (v := .ref (ad 11)) 4 rfl 0 2 dX4_held_1 rfl (Nat.le_of_ble_eq_true rfl) i4 (by decide +kernel) rfl rfl ?_
  refine v_iload_n 5 rfl dX4_held_4 rfl rfl ?_
  refine v_callF (n := 1) (q0 := 11) (ci := 0) 8 rfl (c_heldBefore n (nI A) hn hB) gX4_held_X0_heldBefore rfl (by decide +kernel) rfl ⟨(Nat.le_of_ble_eq_true rfl), (Nat.le_of_ble_eq_true rfl)⟩ rfl (Nat.le_of_ble_eq_true rfl) rfl rfl rfl dX4_held_5 ⟨Nat.zero_le _, Nat.zero_le _⟩ rfl ?_
  refine v_st (st' := [.int (nI A)]) rfl ?_
  refine v_istore_n (lv' := [(3, .int (nI A)), (0, .ref (ad 0)), (1, .int (nI n)), (2, .int v)]) 9 rfl dX4_held_8 rfl (Nat.le_of_ble_eq_true rfl) rfl ?_
  refine v_iload_n 10 rfl dX4_held_9 rfl rfl ?_
  refine v_iconst (v := -1) 11 rfl dX4_held_10 (by decide) ?_
  refine v_icmp_eq 21 14 rfl dX4_held_11 (by decide) (fun q => False.elim (by exact absurd q (nI_ne_m1 (by omega)))) (fun c11 => ?_)
  refine v_iload_n 15 rfl dX4_held_14 rfl rfl ?_
  refine v_callS (n := 1) 18 rfl (c_isVariable v) gX4_held_X4_isVariable rfl (by decide +kernel) rfl ⟨(Nat.le_of_ble_eq_true rfl), (Nat.le_of_ble_eq_true rfl)⟩ rfl (Nat.le_of_ble_eq_true rfl) dX4_held_15 ⟨Nat.zero_le _, Nat.zero_le _⟩ ?_
  refine v_st (st' := [.int (bI (bel v (nI 4)))]) rfl ?_
  refine v_if_neB (b := bel v (nI 4)) 26 21 rfl dX4_held_18 (by decide) (fun q => False.elim (by rw [hv] at q; cases q)) (fun c18 => ?_)
  refine v_bipush (v := -2) 23 rfl dX4_held_21 (by decide) ?_
  refine v_goto 31 dX4_held_23 (by decide) ?_
  exact v_iret dX4_held_31 rfl rfl rfl

set_option maxRecDepth 100000 in
set_option maxHeartbeats 4000000 in
theorem c_heldN {D : va_G} {cI cZ cJ : ClassId} {l : Launch} {ad : Nat → Nat} {tg : Nat → Int32} {fn : Nat → Int32} {ki : Nat → Int32} {nu : Nat → Int32} {fi : Nat → Int32} {se : Nat → Int32} {ju : Nat → Int32} {op : Nat → Int32} {en : Nat} {sm : Nat} {ob : Nat} {be : Nat → Int32} {af : Nat → Int32} {pl : Int32} {rf : Int32} {rp : Int32} {rs : Nat} {ra : Nat} {rb : Int32} {rl : Nat} (n v : Int32) (hn : bel n (nI 40) = false) : KM D (tyL cI cZ cJ) l yX4_held wsX4_held 2 42 [.ref (ad 0), .int n, .int v] (wC ad cI cZ tg fn ki nu fi se ju op en sm ob be af pl rf rp rs ra rb rl) (some (.int (-2))) (wC ad cI cZ tg fn ki nu fi se ju op en sm ob be af pl rf rp rs ra rb rl) := by
  refine KM.of (cc := cX4_held) (nL := 4) (ret := (some .int)) (by decide +kernel) rfl (Nat.le_of_ble_eq_true rfl) ?_
  have i4 : ∀ w ∈ u_ws RX4 TX4 4, w ∈ wsX4_held := by decide +kernel
  refine v_aload_n 1 rfl dX4_held_0 rfl rfl ?_
  refine v_get (ci := 4) (C := RX4) (T := TX4) (N := 4) (v := .ref (ad 11)) 4 rfl 0 2 dX4_held_1 rfl (Nat.le_of_ble_eq_true rfl) i4 (by decide +kernel) rfl rfl ?_
  refine v_iload_n 5 rfl dX4_held_4 rfl rfl ?_
  refine v_callF (n := 1) (q0 := 11) (ci := 0) 8 rfl (c_heldBeforeNo n hn) gX4_held_X0_heldBefore rfl (by decide +kernel) rfl ⟨(Nat.le_of_ble_eq_true rfl), (Nat.le_of_ble_eq_true rfl)⟩ rfl (Nat.le_of_ble_eq_true rfl) rfl rfl rfl dX4_held_5 ⟨Nat.zero_le _, Nat.zero_le _⟩ rfl ?_
  refine v_st (st' := [.int (-1)]) rfl ?_
  refine v_istore_n (lv' := [(3, .int (-1)), (0, .ref (ad 0)), (1, .int n), (2, .int v)]) 9 rfl dX4_held_8 rfl (Nat.le_of_ble_eq_true rfl) rfl ?_
  refine v_iload_n 10 rfl dX4_held_9 rfl rfl ?_
  refine v_iconst (v := -1) 11 rfl dX4_held_10 (by decide) ?_
  refine v_icmp_eq 21 14 rfl dX4_held_11 (by decide) (fun c11 => ?_) (fun q => False.elim (by exact absurd rfl q))
  refine v_bipush (v := -2) 23 rfl dX4_held_21 (by decide) ?_
  refine v_goto 31 dX4_held_23 (by decide) ?_
  exact v_iret dX4_held_31 rfl rfl rfl

set_option maxRecDepth 100000 in
set_option maxHeartbeats 4000000 in
theorem c_runFault {D : va_G} {cI cZ cJ : ClassId} {l : Launch} {ad : Nat → Nat} {tg : Nat → Int32} {fn : Nat → Int32} {ki : Nat → Int32} {nu : Nat → Int32} {fi : Nat → Int32} {se : Nat → Int32} {ju : Nat → Int32} {op : Nat → Int32} {en : Nat} {sm : Nat} {ob : Nat} {be : Nat → Int32} {af : Nat → Int32} {pl : Int32} {rf : Int32} {rp : Int32} {rs : Nat} {ra : Nat} {rb : Int32} {rl : Nat}  : KM D (tyL cI cZ cJ) l yX4_runFault wsX4_runFault 0 0 [.ref (ad 0)] (wC ad cI cZ tg fn ki nu fi se ju op en sm ob be af pl rf rp rs ra rb rl) (some (.int rf)) (wC ad cI cZ tg fn ki nu fi se ju op en sm ob be af pl rf rp rs ra rb rl) := by
  refine KM.of (cc := cX4_runFault) (nL := 1) (ret := (some .int)) (by decide +kernel) rfl (Nat.le_of_ble_eq_true rfl) ?_
  have i3 : ∀ w ∈ u_ws RX3 TX3 8, w ∈ wsX4_runFault := by decide +kernel
  have i4 : ∀ w ∈ u_ws RX4 TX4 4, w ∈ wsX4_runFault := by decide +kernel
  refine v_aload_n 1 rfl dX4_runFault_0 rfl rfl ?_
  refine v_get (ci := 4) (C := RX4) (T := TX4) (N := 4) (v := .ref (ad 14)) 4 rfl 0 3 dX4_runFault_1 rfl (Nat.le_of_ble_eq_true rfl) i4 (by decide +kernel) rfl rfl ?_
  refine v_getN (ci := 3) (C := RX3) (T := TX3) (N := 8) (v := .int rf) 7 rfl 14 2 dX4_runFault_4 rfl (Nat.le_of_ble_eq_true rfl) i3 (by decide +kernel) rfl rfl ?_
  exact v_iret dX4_runFault_7 rfl rfl rfl

set_option maxRecDepth 100000 in
set_option maxHeartbeats 4000000 in
theorem c_runAt {D : va_G} {cI cZ cJ : ClassId} {l : Launch} {ad : Nat → Nat} {tg : Nat → Int32} {fn : Nat → Int32} {ki : Nat → Int32} {nu : Nat → Int32} {fi : Nat → Int32} {se : Nat → Int32} {ju : Nat → Int32} {op : Nat → Int32} {en : Nat} {sm : Nat} {ob : Nat} {be : Nat → Int32} {af : Nat → Int32} {pl : Int32} {rf : Int32} {rp : Int32} {rs : Nat} {ra : Nat} {rb : Int32} {rl : Nat}  : KM D (tyL cI cZ cJ) l yX4_runAt wsX4_runAt 0 0 [.ref (ad 0)] (wC ad cI cZ tg fn ki nu fi se ju op en sm ob be af pl rf rp rs ra rb rl) (some (.int rp)) (wC ad cI cZ tg fn ki nu fi se ju op en sm ob be af pl rf rp rs ra rb rl) := by
  refine KM.of (cc := cX4_runAt) (nL := 1) (ret := (some .int)) (by decide +kernel) rfl (Nat.le_of_ble_eq_true rfl) ?_
  have i3 : ∀ w ∈ u_ws RX3 TX3 8, w ∈ wsX4_runAt := by decide +kernel
  have i4 : ∀ w ∈ u_ws RX4 TX4 4, w ∈ wsX4_runAt := by decide +kernel
  refine v_aload_n 1 rfl dX4_runAt_0 rfl rfl ?_
  refine v_get (ci := 4) (C := RX4) (T := TX4) (N := 4) (v := .ref (ad 14)) 4 rfl 0 3 dX4_runAt_1 rfl (Nat.le_of_ble_eq_true rfl) i4 (by decide +kernel) rfl rfl ?_
  refine v_getN (ci := 3) (C := RX3) (T := TX3) (N := 8) (v := .int rp) 7 rfl 14 3 dX4_runAt_4 rfl (Nat.le_of_ble_eq_true rfl) i3 (by decide +kernel) rfl rfl ?_
  exact v_iret dX4_runAt_7 rfl rfl rfl

set_option maxRecDepth 100000 in
set_option maxHeartbeats 4000000 in
theorem c_steps {D : va_G} {cI cZ cJ : ClassId} {l : Launch} {ad : Nat → Nat} {tg : Nat → Int32} {fn : Nat → Int32} {ki : Nat → Int32} {nu : Nat → Int32} {fi : Nat → Int32} {se : Nat → Int32} {ju : Nat → Int32} {op : Nat → Int32} {en : Nat} {sm : Nat} {ob : Nat} {be : Nat → Int32} {af : Nat → Int32} {pl : Int32} {rf : Int32} {rp : Int32} {rs : Nat} {ra : Nat} {rb : Int32} {rl : Nat}  : KM D (tyL cI cZ cJ) l yX4_steps wsX4_steps 0 0 [.ref (ad 0)] (wC ad cI cZ tg fn ki nu fi se ju op en sm ob be af pl rf rp rs ra rb rl) (some (.int (nI rs))) (wC ad cI cZ tg fn ki nu fi se ju op en sm ob be af pl rf rp rs ra rb rl) := by
  refine KM.of (cc := cX4_steps) (nL := 1) (ret := (some .int)) (by decide +kernel) rfl (Nat.le_of_ble_eq_true rfl) ?_
  have i3 : ∀ w ∈ u_ws RX3 TX3 8, w ∈ wsX4_steps := by decide +kernel
  have i4 : ∀ w ∈ u_ws RX4 TX4 4, w ∈ wsX4_steps := by decide +kernel
  refine v_aload_n 1 rfl dX4_steps_0 rfl rfl ?_
  refine v_get (ci := 4) (C := RX4) (T := TX4) (N := 4) (v := .ref (ad 14)) 4 rfl 0 3 dX4_steps_1 rfl (Nat.le_of_ble_eq_true rfl) i4 (by decide +kernel) rfl rfl ?_
  refine v_getN (ci := 3) (C := RX3) (T := TX3) (N := 8) (v := .int (nI rs)) 7 rfl 14 4 dX4_steps_4 rfl (Nat.le_of_ble_eq_true rfl) i3 (by decide +kernel) rfl rfl ?_
  exact v_iret dX4_steps_7 rfl rfl rfl

set_option maxRecDepth 100000 in
set_option maxHeartbeats 4000000 in
theorem c_left {D : va_G} {cI cZ cJ : ClassId} {l : Launch} {ad : Nat → Nat} {tg : Nat → Int32} {fn : Nat → Int32} {ki : Nat → Int32} {nu : Nat → Int32} {fi : Nat → Int32} {se : Nat → Int32} {ju : Nat → Int32} {op : Nat → Int32} {en : Nat} {sm : Nat} {ob : Nat} {be : Nat → Int32} {af : Nat → Int32} {pl : Int32} {rf : Int32} {rp : Int32} {rs : Nat} {ra : Nat} {rb : Int32} {rl : Nat} (v : Nat) (hv : v < 4) (hA : ra < 2 ^ 20) : KM D (tyL cI cZ cJ) l yX4_left wsX4_left 2 41 [.ref (ad 0), .int (nI v)] (wC ad cI cZ tg fn ki nu fi se ju op en sm ob be af pl rf rp rs ra rb rl) (some (.int (oI (hb ra v)))) (wC ad cI cZ tg fn ki nu fi se ju op en sm ob be af pl rf rp rs ra rb rl) := by
  refine KM.of (cc := cX4_left) (nL := 2) (ret := (some .int)) (by decide +kernel) rfl (Nat.le_of_ble_eq_true rfl) ?_
  have i3 : ∀ w ∈ u_ws RX3 TX3 8, w ∈ wsX4_left := by decide +kernel
  have i4 : ∀ w ∈ u_ws RX4 TX4 4, w ∈ wsX4_left := by decide +kernel
  refine v_iload_n 1 rfl dX4_left_0 rfl rfl ?_
  refine v_callS (n := 1) 4 rfl (c_isVariableT v (by omega)) gX4_left_X4_isVariable rfl (by decide +kernel) rfl ⟨(Nat.le_of_ble_eq_true rfl), (Nat.le_of_ble_eq_true rfl)⟩ rfl (Nat.le_of_ble_eq_true rfl) dX4_left_1 ⟨Nat.zero_le _, Nat.zero_le _⟩ ?_
  refine v_st (st' := [.int (bI true)]) rfl ?_
  refine v_if_eqB (b := true) 21 7 rfl dX4_left_4 (by decide) (fun q => False.elim (by cases q)) (fun c4 => ?_)
  refine v_aload_n 8 rfl dX4_left_7 rfl rfl ?_
  refine v_get (ci := 4) (C := RX4) (T := TX4) (N := 4) (v := .ref (ad 14)) 11 rfl 0 3 dX4_left_8 rfl (Nat.le_of_ble_eq_true rfl) i4 (by decide +kernel) rfl rfl ?_
  refine v_getN (ci := 3) (C := RX3) (T := TX3) (N := 8) (v := .int (nI ra)) 14 rfl 14 5 dX4_left_11 rfl (Nat.le_of_ble_eq_true rfl) i3 (by decide +kernel) rfl rfl ?_
  refine v_iload_n 15 rfl dX4_left_14 rfl rfl ?_
  refine v_callS (n := 2) 18 rfl (c_heldBy ra v (by omega) (by omega)) gX4_left_X4_heldBy rfl (by decide +kernel) rfl ⟨(Nat.le_of_ble_eq_true rfl), (Nat.le_of_ble_eq_true rfl)⟩ rfl (Nat.le_of_ble_eq_true rfl) dX4_left_15 ⟨Nat.zero_le _, Nat.zero_le _⟩ ?_
  refine v_st (st' := [.int (oI (hb ra v))]) rfl ?_
  refine v_goto 23 dX4_left_18 (by decide) ?_
  exact v_iret dX4_left_23 rfl rfl rfl

set_option maxRecDepth 100000 in
set_option maxHeartbeats 4000000 in
theorem c_leftNo {D : va_G} {cI cZ cJ : ClassId} {l : Launch} {ad : Nat → Nat} {tg : Nat → Int32} {fn : Nat → Int32} {ki : Nat → Int32} {nu : Nat → Int32} {fi : Nat → Int32} {se : Nat → Int32} {ju : Nat → Int32} {op : Nat → Int32} {en : Nat} {sm : Nat} {ob : Nat} {be : Nat → Int32} {af : Nat → Int32} {pl : Int32} {rf : Int32} {rp : Int32} {rs : Nat} {ra : Nat} {rb : Int32} {rl : Nat} (v : Int32) (hv : bel v (nI 4) = false) : KM D (tyL cI cZ cJ) l yX4_left wsX4_left 2 41 [.ref (ad 0), .int v] (wC ad cI cZ tg fn ki nu fi se ju op en sm ob be af pl rf rp rs ra rb rl) (some (.int (-2))) (wC ad cI cZ tg fn ki nu fi se ju op en sm ob be af pl rf rp rs ra rb rl) := by
  refine KM.of (cc := cX4_left) (nL := 2) (ret := (some .int)) (by decide +kernel) rfl (Nat.le_of_ble_eq_true rfl) ?_
  refine v_iload_n 1 rfl dX4_left_0 rfl rfl ?_
  refine v_callS (n := 1) 4 rfl (c_isVariable v) gX4_left_X4_isVariable rfl (by decide +kernel) rfl ⟨(Nat.le_of_ble_eq_true rfl), (Nat.le_of_ble_eq_true rfl)⟩ rfl (Nat.le_of_ble_eq_true rfl) dX4_left_1 ⟨Nat.zero_le _, Nat.zero_le _⟩ ?_
  refine v_st (st' := [.int (bI (bel v (nI 4)))]) rfl ?_
  refine v_if_eqB (b := bel v (nI 4)) 21 7 rfl dX4_left_4 (by decide) (fun c4 => ?_) (fun q => False.elim (by rw [hv] at q; cases q))
  refine v_bipush (v := -2) 23 rfl dX4_left_21 (by decide) ?_
  exact v_iret dX4_left_23 rfl rfl rfl

