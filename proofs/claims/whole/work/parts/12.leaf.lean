set_option maxRecDepth 100000 in
set_option maxHeartbeats 4000000 in
theorem c_isBelow {D : va_G} {cI cZ cJ : ClassId} {l : Launch} (a b : Int32) : KM D (tyL cI cZ cJ) l yX4_isBelow wsX4_isBelow 0 0 [.int a, .int b] ([]) (some (.int (bI (bel a b)))) ([]) := by
  refine KM.of (cc := cX4_isBelow) (nL := 2) (ret := (some .boolean)) (by decide +kernel) rfl (Nat.le_of_ble_eq_true rfl) ?_
  refine v_iload_n 1 rfl dX4_isBelow_0 rfl rfl ?_
  refine v_if_lt 13 4 rfl dX4_isBelow_1 (by decide) (fun c1 => ?_) (fun c1 => ?_)
  · refine v_iconst (v := nI 0) 14 rfl dX4_isBelow_13 (by decide) ?_
    refine v_top (v' := bI false) (by decide) ?_
    exact v_zret dX4_isBelow_14 rfl (by simp [bel, *]) rfl
  · refine v_iload_n 5 rfl dX4_isBelow_4 rfl rfl ?_
    refine v_iload_n 6 rfl dX4_isBelow_5 rfl rfl ?_
    refine v_icmp_ge 13 9 rfl dX4_isBelow_6 (by decide) (fun c6 => ?_) (fun c6 => ?_)
    · refine v_iconst (v := nI 0) 14 rfl dX4_isBelow_13 (by decide) ?_
      refine v_top (v' := bI false) (by decide) ?_
      exact v_zret dX4_isBelow_14 rfl (by simp [bel, *]) rfl
    · refine v_iconst (v := nI 1) 10 rfl dX4_isBelow_9 (by decide) ?_
      refine v_goto 14 dX4_isBelow_10 (by decide) ?_
      refine v_top (v' := bI true) (by decide) ?_
      exact v_zret dX4_isBelow_14 rfl (by simp [bel, *]) rfl

set_option maxRecDepth 100000 in
set_option maxHeartbeats 4000000 in
theorem c_addEntry {D : va_G} {cI cZ cJ : ClassId} {l : Launch} {ad : Nat → Nat} {tg : Nat → Int32} {fn : Nat → Int32} {ki : Nat → Int32} {nu : Nat → Int32} {fi : Nat → Int32} {se : Nat → Int32} {ju : Nat → Int32} {op : Nat → Int32} {en : Nat} {sm : Nat} {ob : Nat} {be : Nat → Int32} {af : Nat → Int32} {pl : Int32} {rf : Int32} {rp : Int32} {rs : Nat} {ra : Nat} {rb : Int32} {rl : Nat} (kd n f s : Int32) (hen : en < 120) : KM D (tyL cI cZ cJ) l yX1_addEntry wsX1_addEntry 0 0 [.ref (ad 4), .int kd, .int n, .int f, .int s] (wC ad cI cZ tg fn ki nu fi se ju op en sm ob be af pl rf rp rs ra rb rl) none (wC ad cI cZ tg fn (upd ki en kd) (upd nu en n) (upd fi en f) (upd se en s) ju op (en + 1) sm ob be af pl rf rp rs ra rb rl) := by
  refine KM.of (cc := cX1_addEntry) (nL := 5) (ret := none) (by decide +kernel) rfl (Nat.le_of_ble_eq_true rfl) ?_
  have i1 : ∀ w ∈ u_ws RX1 TX1 9, w ∈ wsX1_addEntry := by decide +kernel
  refine v_aload_n 1 rfl dX1_addEntry_0 rfl rfl ?_
  refine v_get (ci := 1) (C := RX1) (T := TX1) (N := 9) (v := .int (nI en)) 4 rfl 4 6 dX1_addEntry_1 rfl (Nat.le_of_ble_eq_true rfl) i1 (by decide +kernel) rfl rfl ?_
  refine v_bipush (v := nI 120) 6 rfl dX1_addEntry_4 (by decide) ?_
  refine v_icmp_geN (a := en) (b := 120) 60 9 rfl dX1_addEntry_6 (by decide) (by omega) (by omega) (fun q => False.elim (by omega)) (fun c6 => ?_)
  refine v_aload_n 10 rfl dX1_addEntry_9 rfl rfl ?_
  refine v_get (ci := 1) (C := RX1) (T := TX1) (N := 9) (v := .ref (ad 5)) 13 rfl 4 0 dX1_addEntry_10 rfl (Nat.le_of_ble_eq_true rfl) i1 (by decide +kernel) rfl rfl ?_
  refine v_aload_n 14 rfl dX1_addEntry_13 rfl rfl ?_
  refine v_get (ci := 1) (C := RX1) (T := TX1) (N := 9) (v := .int (nI en)) 17 rfl 4 6 dX1_addEntry_14 rfl (Nat.le_of_ble_eq_true rfl) i1 (by decide +kernel) rfl rfl ?_
  refine v_iload_n 18 rfl dX1_addEntry_17 rfl rfl ?_
  refine v_iast (j := en) (w' := wC ad cI cZ tg fn (upd ki en kd) nu fi se ju op en sm ob be af pl rf rp rs ra rb rl) 19 rfl 5 0 dX1_addEntry_18 rfl rfl (by omega) (by decide) rfl ?_
  refine v_aload_n 20 rfl dX1_addEntry_19 rfl rfl ?_
  refine v_get (ci := 1) (C := RX1) (T := TX1) (N := 9) (v := .ref (ad 6)) 23 rfl 4 1 dX1_addEntry_20 rfl (Nat.le_of_ble_eq_true rfl) i1 (by decide +kernel) rfl rfl ?_
  refine v_aload_n 24 rfl dX1_addEntry_23 rfl rfl ?_
  refine v_get (ci := 1) (C := RX1) (T := TX1) (N := 9) (v := .int (nI en)) 27 rfl 4 6 dX1_addEntry_24 rfl (Nat.le_of_ble_eq_true rfl) i1 (by decide +kernel) rfl rfl ?_
  refine v_iload_n 28 rfl dX1_addEntry_27 rfl rfl ?_
  refine v_iast (j := en) (w' := wC ad cI cZ tg fn (upd ki en kd) (upd nu en n) fi se ju op en sm ob be af pl rf rp rs ra rb rl) 29 rfl 6 0 dX1_addEntry_28 rfl rfl (by omega) (by decide) rfl ?_
  refine v_aload_n 30 rfl dX1_addEntry_29 rfl rfl ?_
  refine v_get (ci := 1) (C := RX1) (T := TX1) (N := 9) (v := .ref (ad 7)) 33 rfl 4 2 dX1_addEntry_30 rfl (Nat.le_of_ble_eq_true rfl) i1 (by decide +kernel) rfl rfl ?_
  refine v_aload_n 34 rfl dX1_addEntry_33 rfl rfl ?_
  refine v_get (ci := 1) (C := RX1) (T := TX1) (N := 9) (v := .int (nI en)) 37 rfl 4 6 dX1_addEntry_34 rfl (Nat.le_of_ble_eq_true rfl) i1 (by decide +kernel) rfl rfl ?_
  refine v_iload_n 38 rfl dX1_addEntry_37 rfl rfl ?_
  refine v_iast (j := en) (w' := wC ad cI cZ tg fn (upd ki en kd) (upd nu en n) (upd fi en f) se ju op en sm ob be af pl rf rp rs ra rb rl) 39 rfl 7 0 dX1_addEntry_38 rfl rfl (by omega) (by decide) rfl ?_
  refine v_aload_n 40 rfl dX1_addEntry_39 rfl rfl ?_
  refine v_get (ci := 1) (C := RX1) (T := TX1) (N := 9) (v := .ref (ad 8)) 43 rfl 4 3 dX1_addEntry_40 rfl (Nat.le_of_ble_eq_true rfl) i1 (by decide +kernel) rfl rfl ?_
  refine v_aload_n 44 rfl dX1_addEntry_43 rfl rfl ?_
  refine v_get (ci := 1) (C := RX1) (T := TX1) (N := 9) (v := .int (nI en)) 47 rfl 4 6 dX1_addEntry_44 rfl (Nat.le_of_ble_eq_true rfl) i1 (by decide +kernel) rfl rfl ?_
  refine v_iload 49 rfl dX1_addEntry_47 rfl ?_
  refine v_iast (j := en) (w' := wC ad cI cZ tg fn (upd ki en kd) (upd nu en n) (upd fi en f) (upd se en s) ju op en sm ob be af pl rf rp rs ra rb rl) 50 rfl 8 0 dX1_addEntry_49 rfl rfl (by omega) (by decide) rfl ?_
  refine v_aload_n 51 rfl dX1_addEntry_50 rfl rfl ?_
  refine v_dup 52 rfl dX1_addEntry_51 rfl ?_
  refine v_get (ci := 1) (C := RX1) (T := TX1) (N := 9) (v := .int (nI en)) 55 rfl 4 6 dX1_addEntry_52 rfl (Nat.le_of_ble_eq_true rfl) i1 (by decide +kernel) rfl rfl ?_
  refine v_iconst (v := nI 1) 56 rfl dX1_addEntry_55 (by decide) ?_
  refine v_iaddN (a := en) (b := 1) 57 rfl dX1_addEntry_56 ?_
  refine v_put (ci := 1) (C := RX1) (T := TX1) (ty0 := tyX1) (N := 9) (ty := .int) (w' := wC ad cI cZ tg fn (upd ki en kd) (upd nu en n) (upd fi en f) (upd se en s) ju op (en + 1) sm ob be af pl rf rp rs ra rb rl) 60 rfl 4 6 dX1_addEntry_57 rfl (Nat.le_of_ble_eq_true rfl) i1 tyX1_ok nmX1 (by decide +kernel) rfl (by decide +kernel) rfl rfl rfl (Nat.le_of_ble_eq_true rfl) rfl ?_
  exact v_vret dX1_addEntry_60 rfl rfl rfl

