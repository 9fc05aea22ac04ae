set_option maxRecDepth 100000 in
set_option maxHeartbeats 4000000 in
theorem c_isBelow {D : va_G} {cI cZ cJ : ClassId} {l : Launch} (a b : Int32) : KM D (tyL cI cZ cJ) l yX4_isBelow wsX4_isBelow 0 0 [.int a, .int b] ([]) (some (.int (bI (bel a b)))) ([]) := by
  refine KM.of (cc := cX4_isBelow) (nL := 2) (ret := (some .boolean)) (by decide +kernel) rfl (Nat.le_of_ble_eq_true rfl) ?_
  refine v_iload_n 1 rfl dX4_isBelow_0 rfl rfl ?_
  refine v_if_lt 13 4 rfl dX4_isBelow_1 (by decide) (fun c1 => ?_) (fun c1 => ?_)
  · refine v_iconst (v := nI 0) 14 rfl dX4_isBelow_13 (by decide) ?_
    refine v_top (v' := bI false) (by decide) ?_
    exact v_zret dX4_isBelow_14 rfl (by simp [bel, *]) rfl
  · refine v_iload_n 5 rfl dX4_isBelow_4 rfl rfl ?_
    refine v_iload_n 6 rfl dX4_isBelow_5 rfl rfl ?_
    refine v_icmp_ge 13 9 rfl dX4_isBelow_6 (by decide) (fun c6 => ?_) (fun c6 => ?_)
    · refine v_iconst (v := nI 0) 14 rfl dX4_isBelow_13 (by decide) ?_
      refine v_top (v' := bI false) (by decide) ?_
      exact v_zret dX4_isBelow_14 rfl (by simp [bel, *]) rfl
    · refine v_iconst (v := nI 1) 10 rfl dX4_isBelow_9 (by decide) ?_
      refine v_goto 14 dX4_isBelow_10 (by decide) ?_
      refine v_top (v' := bI true) (by decide) ?_
      exact v_zret dX4_isBelow_14 rfl (by simp [bel, *]) rfl

theorem c_isBelowT {D : va_G} {cI cZ cJ : ClassId} {l : Launch} (a b : Nat) (hb : b < 2 ^ 31) (h : a < b) : KM D (tyL cI cZ cJ) l yX4_isBelow wsX4_isBelow 0 0 [.int (nI a), .int (nI b)] [] (some (.int (bI true))) [] := by
  have := c_isBelow (D := D) (cI := cI) (cZ := cZ) (cJ := cJ) (l := l) (nI a) (nI b)
  rw [bel_N (by omega) hb, decide_eq_true h] at this
  exact this
theorem c_isBelowF {D : va_G} {cI cZ cJ : ClassId} {l : Launch} (a b : Nat) (ha : a < 2 ^ 31) (h : b ≤ a) : KM D (tyL cI cZ cJ) l yX4_isBelow wsX4_isBelow 0 0 [.int (nI a), .int (nI b)] [] (some (.int (bI false))) [] := by
  have := c_isBelow (D := D) (cI := cI) (cZ := cZ) (cJ := cJ) (l := l) (nI a) (nI b)
  rw [bel_N ha (by omega), decide_eq_false (Nat.not_lt.mpr h)] at this
  exact this

set_option maxRecDepth 100000 in
set_option maxHeartbeats 4000000 in
theorem c_isVariable {D : va_G} {cI cZ cJ : ClassId} {l : Launch} (a : Int32) : KM D (tyL cI cZ cJ) l yX4_isVariable wsX4_isVariable 1 21 [.int a] ([]) (some (.int (bI (bel a (nI 4))))) ([]) := by
  refine KM.of (cc := cX4_isVariable) (nL := 1) (ret := (some .boolean)) (by decide +kernel) rfl (Nat.le_of_ble_eq_true rfl) ?_
  refine v_iload_n 1 rfl dX4_isVariable_0 rfl rfl ?_
  refine v_iconst (v := nI 4) 2 rfl dX4_isVariable_1 (by decide) ?_
  refine v_callS (n := 2) 5 rfl (c_isBelow a (nI 4)) gX4_isVariable_X4_isBelow rfl (by decide +kernel) rfl ⟨(Nat.le_of_ble_eq_true rfl), (Nat.le_of_ble_eq_true rfl)⟩ rfl (Nat.le_of_ble_eq_true rfl) dX4_isVariable_2 ⟨Nat.zero_le _, Nat.zero_le _⟩ ?_
  refine v_st (st' := [.int (bI (bel a (nI 4)))]) rfl ?_
  exact v_zret dX4_isVariable_5 rfl rfl rfl

set_option maxRecDepth 100000 in
set_option maxHeartbeats 4000000 in
theorem c_isVariableT {D : va_G} {cI cZ cJ : ClassId} {l : Launch} (a : Nat) (h : a < 4) : KM D (tyL cI cZ cJ) l yX4_isVariable wsX4_isVariable 1 21 [.int (nI a)] ([]) (some (.int (bI true))) ([]) := by
  refine KM.of (cc := cX4_isVariable) (nL := 1) (ret := (some .boolean)) (by decide +kernel) rfl (Nat.le_of_ble_eq_true rfl) ?_
  refine v_iload_n 1 rfl dX4_isVariable_0 rfl rfl ?_
  refine v_iconst (v := nI 4) 2 rfl dX4_isVariable_1 (by decide) ?_
  refine v_callS (n := 2) 5 rfl (c_isBelowT a 4 (by omega) (by omega)) gX4_isVariable_X4_isBelow rfl (by decide +kernel) rfl ⟨(Nat.le_of_ble_eq_true rfl), (Nat.le_of_ble_eq_true rfl)⟩ rfl (Nat.le_of_ble_eq_true rfl) dX4_isVariable_2 ⟨Nat.zero_le _, Nat.zero_le _⟩ ?_
  refine v_st (st' := [.int (bI true)]) rfl ?_
  exact v_zret dX4_isVariable_5 rfl rfl rfl

set_option maxRecDepth 100000 in
set_option maxHeartbeats 4000000 in
theorem c_isState {D : va_G} {cI cZ cJ : ClassId} {l : Launch} (a b : Int32) : KM D (tyL cI cZ cJ) l yX4_isState wsX4_isState 1 21 [.int a, .int b] ([]) (some (.int (bI (bel a (nI 3) && bel b (nI 5))))) ([]) := by
  refine KM.of (cc := cX4_isState) (nL := 2) (ret := (some .boolean)) (by decide +kernel) rfl (Nat.le_of_ble_eq_true rfl) ?_
  refine v_iload_n 1 rfl dX4_isState_0 rfl rfl ?_
  refine v_iconst (v := nI 3) 2 rfl dX4_isState_1 (by decide) ?_
  refine v_callS (n := 2) 5 rfl (c_isBelow a (nI 3)) gX4_isState_X4_isBelow rfl (by decide +kernel) rfl ⟨(Nat.le_of_ble_eq_true rfl), (Nat.le_of_ble_eq_true rfl)⟩ rfl (Nat.le_of_ble_eq_true rfl) dX4_isState_2 ⟨Nat.zero_le _, Nat.zero_le _⟩ ?_
  refine v_st (st' := [.int (bI (bel a (nI 3)))]) rfl ?_
  refine v_if_eqB (b := bel a (nI 3)) 20 8 rfl dX4_isState_5 (by decide) (fun c5 => ?_) (fun c5 => ?_)
  · refine v_iconst (v := nI 0) 21 rfl dX4_isState_20 (by decide) ?_
    refine v_top (v' := bI false) (by decide) ?_
    exact v_zret dX4_isState_21 rfl (by simp [*]) rfl
  · refine v_iload_n 9 rfl dX4_isState_8 rfl rfl ?_
    refine v_iconst (v := nI 5) 10 rfl dX4_isState_9 (by decide) ?_
    refine v_callS (n := 2) 13 rfl (c_isBelow b (nI 5)) gX4_isState_X4_isBelow rfl (by decide +kernel) rfl ⟨(Nat.le_of_ble_eq_true rfl), (Nat.le_of_ble_eq_true rfl)⟩ rfl (Nat.le_of_ble_eq_true rfl) dX4_isState_10 ⟨Nat.zero_le _, Nat.zero_le _⟩ ?_
    refine v_st (st' := [.int (bI (bel b (nI 5)))]) rfl ?_
    refine v_if_eqB (b := bel b (nI 5)) 20 16 rfl dX4_isState_13 (by decide) (fun c13 => ?_) (fun c13 => ?_)
    · refine v_iconst (v := nI 0) 21 rfl dX4_isState_20 (by decide) ?_
      refine v_top (v' := bI false) (by decide) ?_
      exact v_zret dX4_isState_21 rfl (by simp [*]) rfl
    · refine v_iconst (v := nI 1) 17 rfl dX4_isState_16 (by decide) ?_
      refine v_goto 21 dX4_isState_17 (by decide) ?_
      refine v_top (v' := bI true) (by decide) ?_
      exact v_zret dX4_isState_21 rfl (by simp [*]) rfl

set_option maxRecDepth 100000 in
set_option maxHeartbeats 4000000 in
theorem c_isStateT {D : va_G} {cI cZ cJ : ClassId} {l : Launch} (a b : Nat) (ha : a < 3) (hb : b < 5) : KM D (tyL cI cZ cJ) l yX4_isState wsX4_isState 1 21 [.int (nI a), .int (nI b)] ([]) (some (.int (bI true))) ([]) := by
  refine KM.of (cc := cX4_isState) (nL := 2) (ret := (some .boolean)) (by decide +kernel) rfl (Nat.le_of_ble_eq_true rfl) ?_
  refine v_iload_n 1 rfl dX4_isState_0 rfl rfl ?_
  refine v_iconst (v := nI 3) 2 rfl dX4_isState_1 (by decide) ?_
  refine v_callS (n := 2) 5 rfl (c_isBelowT a 3 (by omega) (by omega)) gX4_isState_X4_isBelow rfl (by decide +kernel) rfl ⟨(Nat.le_of_ble_eq_true rfl), (Nat.le_of_ble_eq_true rfl)⟩ rfl (Nat.le_of_ble_eq_true rfl) dX4_isState_2 ⟨Nat.zero_le _, Nat.zero_le _⟩ ?_
  refine v_st (st' := [.int (bI true)]) rfl ?_
  refine v_if_eqB (b := true) 20 8 rfl dX4_isState_5 (by decide) (fun q => False.elim (by cases q)) (fun c5 => ?_)
  refine v_iload_n 9 rfl dX4_isState_8 rfl rfl ?_
  refine v_iconst (v := nI 5) 10 rfl dX4_isState_9 (by decide) ?_
  refine v_callS (n := 2) 13 rfl (c_isBelowT b 5 (by omega) (by omega)) gX4_isState_X4_isBelow rfl (by decide +kernel) rfl ⟨(Nat.le_of_ble_eq_true rfl), (Nat.le_of_ble_eq_true rfl)⟩ rfl (Nat.le_of_ble_eq_true rfl) dX4_isState_10 ⟨Nat.zero_le _, Nat.zero_le _⟩ ?_
  refine v_st (st' := [.int (bI true)]) rfl ?_
  refine v_if_eqB (b := true) 20 16 rfl dX4_isState_13 (by decide) (fun q => False.elim (by cases q)) (fun c13 => ?_)
  refine v_iconst (v := nI 1) 17 rfl dX4_isState_16 (by decide) ?_
  refine v_goto 21 dX4_isState_17 (by decide) ?_
  refine v_top (v' := bI true) (by decide) ?_
  exact v_zret dX4_isState_21 rfl rfl rfl

set_option maxRecDepth 100000 in
set_option maxHeartbeats 4000000 in
theorem c_objectOf {D : va_G} {cI cZ cJ : ClassId} {l : Launch} (a b : Nat) : KM D (tyL cI cZ cJ) l yX4_objectOf wsX4_objectOf 0 0 [.int (nI a), .int (nI b)] ([]) (some (.int (nI (8 * a + b)))) ([]) := by
  refine KM.of (cc := cX4_objectOf) (nL := 2) (ret := (some .int)) (by decide +kernel) rfl (Nat.le_of_ble_eq_true rfl) ?_
  refine v_bipush (v := nI 8) 2 rfl dX4_objectOf_0 (by decide) ?_
  refine v_iload_n 3 rfl dX4_objectOf_2 rfl rfl ?_
  refine v_imulN (a := 8) (b := a) 4 rfl dX4_objectOf_3 ?_
  refine v_iload_n 5 rfl dX4_objectOf_4 rfl rfl ?_
  refine v_iaddN (a := 8 * a) (b := b) 6 rfl dX4_objectOf_5 ?_
  exact v_iret dX4_objectOf_6 rfl rfl rfl

set_option maxRecDepth 100000 in
set_option maxHeartbeats 4000000 in
theorem c_protocolOf {D : va_G} {cI cZ cJ : ClassId} {l : Launch} (a : Nat) (ha : a < 2 ^ 31) : KM D (tyL cI cZ cJ) l yX4_protocolOf wsX4_protocolOf 0 0 [.int (nI a)] ([]) (some (.int (nI (a / 8)))) ([]) := by
  refine KM.of (cc := cX4_protocolOf) (nL := 1) (ret := (some .int)) (by decide +kernel) rfl (Nat.le_of_ble_eq_true rfl) ?_
  refine v_iload_n 1 rfl dX4_protocolOf_0 rfl rfl ?_
  refine v_iconst (v := nI 3) 2 rfl dX4_protocolOf_1 (by decide) ?_
  refine v_ishr 3 rfl dX4_protocolOf_2 ?_
  refine v_top (v' := nI (a / 8)) (pk_shrN ha _ 3 (by decide)) ?_
  exact v_iret dX4_protocolOf_3 rfl rfl rfl

set_option maxRecDepth 100000 in
set_option maxHeartbeats 4000000 in
theorem c_heldBy {D : va_G} {cI cZ cJ : ClassId} {l : Launch} (A v : Nat) (hA : A < 2 ^ 20) (hv : v < 4) : KM D (tyL cI cZ cJ) l yX4_heldBy wsX4_heldBy 0 0 [.int (nI A), .int (nI v)] ([]) (some (.int (oI (hb A v)))) ([]) := by
  refine KM.of (cc := cX4_heldBy) (nL := 2) (ret := (some .int)) (by decide +kernel) rfl (Nat.le_of_ble_eq_true rfl) ?_
  refine v_iload_n 1 rfl dX4_heldBy_0 rfl rfl ?_
  refine v_iconst (v := nI 5) 2 rfl dX4_heldBy_1 (by decide) ?_
  refine v_iload_n 3 rfl dX4_heldBy_2 rfl rfl ?_
  refine v_imulN (a := 5) (b := v) 4 rfl dX4_heldBy_3 ?_
  refine v_iushr (v := nI (A / 2 ^ (5 * v))) 5 rfl dX4_heldBy_4 (hb_raw hA hv) ?_
  refine v_bipush (v := nI 31) 7 rfl dX4_heldBy_5 (by decide) ?_
  refine v_iand 8 rfl dX4_heldBy_7 ?_
  refine v_top (v' := nI (hb A v)) (hb_and hA) ?_
  refine v_iconst (v := nI 1) 9 rfl dX4_heldBy_8 (by decide) ?_
  refine v_isub 10 rfl dX4_heldBy_9  ?_
  exact v_iret dX4_heldBy_10 rfl rfl rfl

set_option maxRecDepth 100000 in
set_option maxHeartbeats 4000000 in
theorem c_withHeld {D : va_G} {cI cZ cJ : ClassId} {l : Launch} (A v n : Nat) (hA : A < 2 ^ 20) (hv : v < 4) (hn : n < 32) : KM D (tyL cI cZ cJ) l yX4_withHeld wsX4_withHeld 0 0 [.int (nI A), .int (nI v), .int (oI n)] ([]) (some (.int (nI (wh A v n)))) ([]) := by
  refine KM.of (cc := cX4_withHeld) (nL := 4) (ret := (some .int)) (by decide +kernel) rfl (Nat.le_of_ble_eq_true rfl) ?_
  refine v_iconst (v := nI 5) 1 rfl dX4_withHeld_0 (by decide) ?_
  refine v_iload_n 2 rfl dX4_withHeld_1 rfl rfl ?_
  refine v_imulN (a := 5) (b := v) 3 rfl dX4_withHeld_2 ?_
  refine v_istore_n (lv' := [(3, .int (nI (5 * v))), (0, .int (nI A)), (1, .int (nI v)), (2, .int (oI n))]) 4 rfl dX4_withHeld_3 rfl (Nat.le_of_ble_eq_true rfl) rfl ?_
  refine v_iload_n 5 rfl dX4_withHeld_4 rfl rfl ?_
  refine v_bipush (v := nI 31) 7 rfl dX4_withHeld_5 (by decide) ?_
  refine v_iload_n 8 rfl dX4_withHeld_7 rfl rfl ?_
  refine v_ishl 9 rfl dX4_withHeld_8 ?_
  refine v_iconst (v := -1) 10 rfl dX4_withHeld_9 (by decide) ?_
  refine v_ixor 11 rfl dX4_withHeld_10 ?_
  refine v_iand 12 rfl dX4_withHeld_11 ?_
  refine v_iload_n 13 rfl dX4_withHeld_12 rfl rfl ?_
  refine v_iconst (v := nI 1) 14 rfl dX4_withHeld_13 (by decide) ?_
  refine v_iadd 15 rfl dX4_withHeld_14  ?_
  refine v_top (v' := nI n) (oI_add n) ?_
  refine v_iload_n 16 rfl dX4_withHeld_15 rfl rfl ?_
  refine v_ishl 17 rfl dX4_withHeld_16 ?_
  refine v_ior 18 rfl dX4_withHeld_17 ?_
  refine v_top (v' := nI (wh A v n)) (wh_raw hA hv hn) ?_
  exact v_iret dX4_withHeld_18 rfl rfl rfl

set_option maxRecDepth 100000 in
set_option maxHeartbeats 4000000 in
theorem c_setTarget {D : va_G} {cI cZ cJ : ClassId} {l : Launch} {ad : Nat → Nat} {tg : Nat → Int32} {fn : Nat → Int32} {ki : Nat → Int32} {nu : Nat → Int32} {fi : Nat → Int32} {se : Nat → Int32} {ju : Nat → Int32} {op : Nat → Int32} {en : Nat} {sm : Nat} {ob : Nat} {be : Nat → Int32} {af : Nat → Int32} {pl : Int32} {rf : Int32} {rp : Int32} {rs : Nat} {ra : Nat} {rb : Int32} {rl : Nat} (o e : Nat) (t : Int32) (ho : o < 24) (he : e < 4) : KM D (tyL cI cZ cJ) l yX2_setTarget wsX2_setTarget 1 21 [.ref (ad 1), .int (nI o), .int (nI e), .int t] (wC ad cI cZ tg fn ki nu fi se ju op en sm ob be af pl rf rp rs ra rb rl) (some (.int (bI true))) (wC ad cI cZ (upd tg (o * 4 + e) t) fn ki nu fi se ju op en sm ob be af pl rf rp rs ra rb rl) := by
  refine KM.of (cc := cX2_setTarget) (nL := 5) (ret := (some .boolean)) (by decide +kernel) rfl (Nat.le_of_ble_eq_true rfl) ?_
  have i2 : ∀ w ∈ u_ws RX2 TX2 2, w ∈ wsX2_setTarget := by decide +kernel
  refine v_iload_n 1 rfl dX2_setTarget_0 rfl rfl ?_
  refine v_bipush (v := nI 24) 3 rfl dX2_setTarget_1 (by decide) ?_
  refine v_callSN (n := 2) 6 rfl (c_isBelowT o 24 (by omega) (by omega)) gX2_setTarget_X4_isBelow_n25 rfl (by decide +kernel) (by decide +kernel) (by decide +kernel) (by decide +kernel) rfl ⟨(Nat.le_of_ble_eq_true rfl), (Nat.le_of_ble_eq_true rfl)⟩ rfl (Nat.le_of_ble_eq_true rfl) dX2_setTarget_3 ⟨Nat.zero_le _, Nat.zero_le _⟩ ?_
  refine v_st (st' := [.int (bI true)]) rfl ?_
  refine v_if_eqB (b := true) 21 9 rfl dX2_setTarget_6 (by decide) (fun q => False.elim (by cases q)) (fun c6 => ?_)
  refine v_iload_n 10 rfl dX2_setTarget_9 rfl rfl ?_
  refine v_iconst (v := nI 4) 11 rfl dX2_setTarget_10 (by decide) ?_
  refine v_callSN (n := 2) 14 rfl (c_isBelowT e 4 (by omega) (by omega)) gX2_setTarget_X4_isBelow_n25 rfl (by decide +kernel) (by decide +kernel) (by decide +kernel) (by decide +kernel) rfl ⟨(Nat.le_of_ble_eq_true rfl), (Nat.le_of_ble_eq_true rfl)⟩ rfl (Nat.le_of_ble_eq_true rfl) dX2_setTarget_11 ⟨Nat.zero_le _, Nat.zero_le _⟩ ?_
  refine v_st (st' := [.int (bI true)]) rfl ?_
  refine v_if_eqB (b := true) 21 17 rfl dX2_setTarget_14 (by decide) (fun q => False.elim (by cases q)) (fun c14 => ?_)
  refine v_iconst (v := bI true) 18 rfl dX2_setTarget_17 (by decide) ?_
  refine v_goto 22 dX2_setTarget_18 (by decide) ?_
  refine v_istore (lv' := [(4, .int (bI true)), (0, .ref (ad 1)), (1, .int (nI o)), (2, .int (nI e)), (3, .int t)]) 24 rfl dX2_setTarget_22 (Nat.le_of_ble_eq_true rfl) rfl ?_
  refine v_iload 26 rfl dX2_setTarget_24 rfl ?_
  refine v_if_eqB (b := true) 40 29 rfl dX2_setTarget_26 (by decide) (fun q => False.elim (by cases q)) (fun c26 => ?_)
  refine v_aload_n 30 rfl dX2_setTarget_29 rfl rfl ?_
  refine v_get (ci := 2) (C := RX2) (T := TX2) (N := 2) (v := .ref (ad 2)) 33 rfl 1 0 dX2_setTarget_30 rfl (Nat.le_of_ble_eq_true rfl) i2 (by decide +kernel) rfl rfl ?_
  refine v_iload_n 34 rfl dX2_setTarget_33 rfl rfl ?_
  refine v_iconst (v := nI 4) 35 rfl dX2_setTarget_34 (by decide) ?_
  refine v_imulN (a := o) (b := 4) 36 rfl dX2_setTarget_35 ?_
  refine v_iload_n 37 rfl dX2_setTarget_36 rfl rfl ?_
  refine v_iaddN (a := o * 4) (b := e) 38 rfl dX2_setTarget_37 ?_
  refine v_iload_n 39 rfl dX2_setTarget_38 rfl rfl ?_
  refine v_iast (j := (o * 4) + e) (w' := wC ad cI cZ (upd tg ((o * 4) + e) t) fn ki nu fi se ju op en sm ob be af pl rf rp rs ra rb rl) 40 rfl 2 0 dX2_setTarget_39 rfl rfl (by omega) (by decide) rfl ?_
  refine v_iload 42 rfl dX2_setTarget_40 rfl ?_
  exact v_zret dX2_setTarget_42 rfl rfl rfl

set_option maxRecDepth 100000 in
set_option maxHeartbeats 4000000 in
theorem c_setFinal {D : va_G} {cI cZ cJ : ClassId} {l : Launch} {ad : Nat → Nat} {tg : Nat → Int32} {fn : Nat → Int32} {ki : Nat → Int32} {nu : Nat → Int32} {fi : Nat → Int32} {se : Nat → Int32} {ju : Nat → Int32} {op : Nat → Int32} {en : Nat} {sm : Nat} {ob : Nat} {be : Nat → Int32} {af : Nat → Int32} {pl : Int32} {rf : Int32} {rp : Int32} {rs : Nat} {ra : Nat} {rb : Int32} {rl : Nat} (o : Nat) (b : Bool) (ho : o < 24) : KM D (tyL cI cZ cJ) l yX2_setFinal wsX2_setFinal 1 21 [.ref (ad 1), .int (nI o), .int (bI b)] (wC ad cI cZ tg fn ki nu fi se ju op en sm ob be af pl rf rp rs ra rb rl) (some (.int (bI true))) (wC ad cI cZ tg (upd fn o (bI b)) ki nu fi se ju op en sm ob be af pl rf rp rs ra rb rl) := by
  refine KM.of (cc := cX2_setFinal) (nL := 4) (ret := (some .boolean)) (by decide +kernel) rfl (Nat.le_of_ble_eq_true rfl) ?_
  have i2 : ∀ w ∈ u_ws RX2 TX2 2, w ∈ wsX2_setFinal := by decide +kernel
  refine v_iload_n 1 rfl dX2_setFinal_0 rfl rfl ?_
  refine v_bipush (v := nI 24) 3 rfl dX2_setFinal_1 (by decide) ?_
  refine v_callSN (n := 2) 6 rfl (c_isBelowT o 24 (by omega) (by omega)) gX2_setFinal_X4_isBelow_n25 rfl (by decide +kernel) (by decide +kernel) (by decide +kernel) (by decide +kernel) rfl ⟨(Nat.le_of_ble_eq_true rfl), (Nat.le_of_ble_eq_true rfl)⟩ rfl (Nat.le_of_ble_eq_true rfl) dX2_setFinal_3 ⟨Nat.zero_le _, Nat.zero_le _⟩ ?_
  refine v_st (st' := [.int (bI true)]) rfl ?_
  refine v_istore_n (lv' := [(3, .int (bI true)), (0, .ref (ad 1)), (1, .int (nI o)), (2, .int (bI b))]) 7 rfl dX2_setFinal_6 rfl (Nat.le_of_ble_eq_true rfl) rfl ?_
  refine v_iload_n 8 rfl dX2_setFinal_7 rfl rfl ?_
  refine v_if_eqB (b := true) 18 11 rfl dX2_setFinal_8 (by decide) (fun q => False.elim (by cases q)) (fun c8 => ?_)
  refine v_aload_n 12 rfl dX2_setFinal_11 rfl rfl ?_
  refine v_get (ci := 2) (C := RX2) (T := TX2) (N := 2) (v := .ref (ad 3)) 15 rfl 1 1 dX2_setFinal_12 rfl (Nat.le_of_ble_eq_true rfl) i2 (by decide +kernel) rfl rfl ?_
  refine v_iload_n 16 rfl dX2_setFinal_15 rfl rfl ?_
  refine v_iload_n 17 rfl dX2_setFinal_16 rfl rfl ?_
  refine v_zast (j := o) (b := b) (w' := wC ad cI cZ tg (upd fn o (bI b)) ki nu fi se ju op en sm ob be af pl rf rp rs ra rb rl) 18 rfl 3 1 dX2_setFinal_17 rfl rfl (by omega) (by decide) rfl ?_
  refine v_iload_n 19 rfl dX2_setFinal_18 rfl rfl ?_
  exact v_zret dX2_setFinal_19 rfl rfl rfl

set_option maxRecDepth 100000 in
set_option maxHeartbeats 4000000 in
theorem c_targetOf {D : va_G} {cI cZ cJ : ClassId} {l : Launch} {ad : Nat → Nat} {tg : Nat → Int32} {fn : Nat → Int32} {ki : Nat → Int32} {nu : Nat → Int32} {fi : Nat → Int32} {se : Nat → Int32} {ju : Nat → Int32} {op : Nat → Int32} {en : Nat} {sm : Nat} {ob : Nat} {be : Nat → Int32} {af : Nat → Int32} {pl : Int32} {rf : Int32} {rp : Int32} {rs : Nat} {ra : Nat} {rb : Int32} {rl : Nat} (o e : Nat) (t : Int32) (ho : o < 24) (he : e < 4) (ht : tg (o * 4 + e) = t) : KM D (tyL cI cZ cJ) l yX2_targetOf wsX2_targetOf 1 21 [.ref (ad 1), .int (nI o), .int (nI e)] (wC ad cI cZ tg fn ki nu fi se ju op en sm ob be af pl rf rp rs ra rb rl) (some (.int t)) (wC ad cI cZ tg fn ki nu fi se ju op en sm ob be af pl rf rp rs ra rb rl) := by
  refine KM.of (cc := cX2_targetOf) (nL := 3) (ret := (some .int)) (by decide +kernel) rfl (Nat.le_of_ble_eq_true rfl) ?_
  have i2 : ∀ w ∈ u_ws RX2 TX2 2, w ∈ wsX2_targetOf := by decide +kernel
  refine v_iload_n 1 rfl dX2_targetOf_0 rfl rfl ?_
  refine v_bipush (v := nI 24) 3 rfl dX2_targetOf_1 (by decide) ?_
  refine v_callSN (n := 2) 6 rfl (c_isBelowT o 24 (by omega) (by omega)) gX2_targetOf_X4_isBelow_n25 rfl (by decide +kernel) (by decide +kernel) (by decide +kernel) (by decide +kernel) rfl ⟨(Nat.le_of_ble_eq_true rfl), (Nat.le_of_ble_eq_true rfl)⟩ rfl (Nat.le_of_ble_eq_true rfl) dX2_targetOf_3 ⟨Nat.zero_le _, Nat.zero_le _⟩ ?_
  refine v_st (st' := [.int (bI true)]) rfl ?_
  refine v_if_eqB (b := true) 30 9 rfl dX2_targetOf_6 (by decide) (fun q => False.elim (by cases q)) (fun c6 => ?_)
  refine v_iload_n 10 rfl dX2_targetOf_9 rfl rfl ?_
  refine v_iconst (v := nI 4) 11 rfl dX2_targetOf_10 (by decide) ?_
  refine v_callSN (n := 2) 14 rfl (c_isBelowT e 4 (by omega) (by omega)) gX2_targetOf_X4_isBelow_n25 rfl (by decide +kernel) (by decide +kernel) (by decide +kernel) (by decide +kernel) rfl ⟨(Nat.le_of_ble_eq_true rfl), (Nat.le_of_ble_eq_true rfl)⟩ rfl (Nat.le_of_ble_eq_true rfl) dX2_targetOf_11 ⟨Nat.zero_le _, Nat.zero_le _⟩ ?_
  refine v_st (st' := [.int (bI true)]) rfl ?_
  refine v_if_eqB (b := true) 30 17 rfl dX2_targetOf_14 (by decide) (fun q => False.elim (by cases q)) (fun c14 => ?_)
  refine v_aload_n 18 rfl dX2_targetOf_17 rfl rfl ?_
  refine v_get (ci := 2) (C := RX2) (T := TX2) (N := 2) (v := .ref (ad 2)) 21 rfl 1 0 dX2_targetOf_18 rfl (Nat.le_of_ble_eq_true rfl) i2 (by decide +kernel) rfl rfl ?_
  refine v_iload_n 22 rfl dX2_targetOf_21 rfl rfl ?_
  refine v_iconst (v := nI 4) 23 rfl dX2_targetOf_22 (by decide) ?_
  refine v_imulN (a := o) (b := 4) 24 rfl dX2_targetOf_23 ?_
  refine v_iload_n 25 rfl dX2_targetOf_24 rfl rfl ?_
  refine v_iaddN (a := o * 4) (b := e) 26 rfl dX2_targetOf_25 ?_
  refine v_iald (j := (o * 4) + e) (v := t) 27 rfl 2 0 dX2_targetOf_26 rfl rfl (by omega) (by decide) ht ?_
  refine v_goto 31 dX2_targetOf_27 (by decide) ?_
  exact v_iret dX2_targetOf_31 rfl rfl rfl

set_option maxRecDepth 100000 in
set_option maxHeartbeats 4000000 in
theorem c_mayBeLeft {D : va_G} {cI cZ cJ : ClassId} {l : Launch} {ad : Nat → Nat} {tg : Nat → Int32} {fn : Nat → Int32} {ki : Nat → Int32} {nu : Nat → Int32} {fi : Nat → Int32} {se : Nat → Int32} {ju : Nat → Int32} {op : Nat → Int32} {en : Nat} {sm : Nat} {ob : Nat} {be : Nat → Int32} {af : Nat → Int32} {pl : Int32} {rf : Int32} {rp : Int32} {rs : Nat} {ra : Nat} {rb : Int32} {rl : Nat} (o : Nat) (b : Bool) (ho : o < 24) (hb : fn o = bI b) : KM D (tyL cI cZ cJ) l yX2_mayBeLeft wsX2_mayBeLeft 1 21 [.ref (ad 1), .int (nI o)] (wC ad cI cZ tg fn ki nu fi se ju op en sm ob be af pl rf rp rs ra rb rl) (some (.int (bI b))) (wC ad cI cZ tg fn ki nu fi se ju op en sm ob be af pl rf rp rs ra rb rl) := by
  refine KM.of (cc := cX2_mayBeLeft) (nL := 2) (ret := (some .boolean)) (by decide +kernel) rfl (Nat.le_of_ble_eq_true rfl) ?_
  have i2 : ∀ w ∈ u_ws RX2 TX2 2, w ∈ wsX2_mayBeLeft := by decide +kernel
  refine v_iload_n 1 rfl dX2_mayBeLeft_0 rfl rfl ?_
  refine v_bipush (v := nI 24) 3 rfl dX2_mayBeLeft_1 (by decide) ?_
  refine v_callSN (n := 2) 6 rfl (c_isBelowT o 24 (by omega) (by omega)) gX2_mayBeLeft_X4_isBelow_n25 rfl (by decide +kernel) (by decide +kernel) (by decide +kernel) (by decide +kernel) rfl ⟨(Nat.le_of_ble_eq_true rfl), (Nat.le_of_ble_eq_true rfl)⟩ rfl (Nat.le_of_ble_eq_true rfl) dX2_mayBeLeft_3 ⟨Nat.zero_le _, Nat.zero_le _⟩ ?_
  refine v_st (st' := [.int (bI true)]) rfl ?_
  refine v_if_eqB (b := true) 22 9 rfl dX2_mayBeLeft_6 (by decide) (fun q => False.elim (by cases q)) (fun c6 => ?_)
  refine v_aload_n 10 rfl dX2_mayBeLeft_9 rfl rfl ?_
  refine v_get (ci := 2) (C := RX2) (T := TX2) (N := 2) (v := .ref (ad 3)) 13 rfl 1 1 dX2_mayBeLeft_10 rfl (Nat.le_of_ble_eq_true rfl) i2 (by decide +kernel) rfl rfl ?_
  refine v_iload_n 14 rfl dX2_mayBeLeft_13 rfl rfl ?_
  refine v_zald (j := o) (v := bI b) 15 rfl 3 1 dX2_mayBeLeft_14 rfl rfl (by omega) (by decide) hb ?_
  refine v_if_eqB (b := b) 22 18 rfl dX2_mayBeLeft_15 (by decide) (fun c15 => ?_) (fun c15 => ?_)
  · refine v_iconst (v := nI 0) 23 rfl dX2_mayBeLeft_22 (by decide) ?_
    refine v_top (v' := bI false) (by decide) ?_
    exact v_zret dX2_mayBeLeft_23 rfl (by simp [*]) rfl
  · refine v_iconst (v := nI 1) 19 rfl dX2_mayBeLeft_18 (by decide) ?_
    refine v_goto 23 dX2_mayBeLeft_19 (by decide) ?_
    refine v_top (v' := bI true) (by decide) ?_
    exact v_zret dX2_mayBeLeft_23 rfl (by simp [*]) rfl

set_option maxRecDepth 100000 in
set_option maxHeartbeats 4000000 in
theorem c_removeAll {D : va_G} {cI cZ cJ : ClassId} {l : Launch} {ad : Nat → Nat} {tg : Nat → Int32} {fn : Nat → Int32} {ki : Nat → Int32} {nu : Nat → Int32} {fi : Nat → Int32} {se : Nat → Int32} {ju : Nat → Int32} {op : Nat → Int32} {en : Nat} {sm : Nat} {ob : Nat} {be : Nat → Int32} {af : Nat → Int32} {pl : Int32} {rf : Int32} {rp : Int32} {rs : Nat} {ra : Nat} {rb : Int32} {rl : Nat}  : KM D (tyL cI cZ cJ) l yX1_removeAll wsX1_removeAll 0 0 [.ref (ad 4)] (wC ad cI cZ tg fn ki nu fi se ju op en sm ob be af pl rf rp rs ra rb rl) none (wC ad cI cZ tg fn ki nu fi se ju op 0 0 0 be af pl rf rp rs ra rb rl) := by
  refine KM.of (cc := cX1_removeAll) (nL := 1) (ret := none) (by decide +kernel) rfl (Nat.le_of_ble_eq_true rfl) ?_
  have i1 : ∀ w ∈ u_ws RX1 TX1 9, w ∈ wsX1_removeAll := by decide +kernel
  refine v_aload_n 1 rfl dX1_removeAll_0 rfl rfl ?_
  refine v_iconst (v := nI 0) 2 rfl dX1_removeAll_1 (by decide) ?_
  refine v_put (ci := 1) (C := RX1) (T := TX1) (ty0 := tyX1) (N := 9) (ty := .int) (w' := wC ad cI cZ tg fn ki nu fi se ju op 0 sm ob be af pl rf rp rs ra rb rl) 5 rfl 4 6 dX1_removeAll_2 rfl (Nat.le_of_ble_eq_true rfl) i1 tyX1_ok nmX1 (by decide +kernel) rfl (by decide +kernel) rfl rfl rfl (Nat.le_of_ble_eq_true rfl) rfl ?_
  refine v_aload_n 6 rfl dX1_removeAll_5 rfl rfl ?_
  refine v_iconst (v := nI 0) 7 rfl dX1_removeAll_6 (by decide) ?_
  refine v_put (ci := 1) (C := RX1) (T := TX1) (ty0 := tyX1) (N := 9) (ty := .int) (w' := wC ad cI cZ tg fn ki nu fi se ju op 0 0 ob be af pl rf rp rs ra rb rl) 10 rfl 4 7 dX1_removeAll_7 rfl (Nat.le_of_ble_eq_true rfl) i1 tyX1_ok nmX1 (by decide +kernel) rfl (by decide +kernel) rfl rfl rfl (Nat.le_of_ble_eq_true rfl) rfl ?_
  refine v_aload_n 11 rfl dX1_removeAll_10 rfl rfl ?_
  refine v_iconst (v := nI 0) 12 rfl dX1_removeAll_11 (by decide) ?_
  refine v_put (ci := 1) (C := RX1) (T := TX1) (ty0 := tyX1) (N := 9) (ty := .int) (w' := wC ad cI cZ tg fn ki nu fi se ju op 0 0 0 be af pl rf rp rs ra rb rl) 15 rfl 4 8 dX1_removeAll_12 rfl (Nat.le_of_ble_eq_true rfl) i1 tyX1_ok nmX1 (by decide +kernel) rfl (by decide +kernel) rfl rfl rfl (Nat.le_of_ble_eq_true rfl) rfl ?_
  exact v_vret dX1_removeAll_15 rfl rfl rfl

set_option maxRecDepth 100000 in
set_option maxHeartbeats 4000000 in
theorem c_hasOpenBlocks {D : va_G} {cI cZ cJ : ClassId} {l : Launch} {ad : Nat → Nat} {tg : Nat → Int32} {fn : Nat → Int32} {ki : Nat → Int32} {nu : Nat → Int32} {fi : Nat → Int32} {se : Nat → Int32} {ju : Nat → Int32} {op : Nat → Int32} {en : Nat} {sm : Nat} {ob : Nat} {be : Nat → Int32} {af : Nat → Int32} {pl : Int32} {rf : Int32} {rp : Int32} {rs : Nat} {ra : Nat} {rb : Int32} {rl : Nat} (ho : ob ≤ 6) : KM D (tyL cI cZ cJ) l yX1_hasOpenBlocks wsX1_hasOpenBlocks 0 0 [.ref (ad 4)] (wC ad cI cZ tg fn ki nu fi se ju op en sm ob be af pl rf rp rs ra rb rl) (some (.int (bI (decide (0 < ob))))) (wC ad cI cZ tg fn ki nu fi se ju op en sm ob be af pl rf rp rs ra rb rl) := by
  refine KM.of (cc := cX1_hasOpenBlocks) (nL := 1) (ret := (some .boolean)) (by decide +kernel) rfl (Nat.le_of_ble_eq_true rfl) ?_
  have i1 : ∀ w ∈ u_ws RX1 TX1 9, w ∈ wsX1_hasOpenBlocks := by decide +kernel
  refine v_aload_n 1 rfl dX1_hasOpenBlocks_0 rfl rfl ?_
  refine v_get (ci := 1) (C := RX1) (T := TX1) (N := 9) (v := .int (nI ob)) 4 rfl 4 8 dX1_hasOpenBlocks_1 rfl (Nat.le_of_ble_eq_true rfl) i1 (by decide +kernel) rfl rfl ?_
  refine v_if_leN (a := ob) 11 7 rfl dX1_hasOpenBlocks_4 (by decide) (by omega) (fun c4 => ?_) (fun c4 => ?_)
  · refine v_iconst (v := nI 0) 12 rfl dX1_hasOpenBlocks_11 (by decide) ?_
    refine v_top (v' := bI false) (by decide) ?_
    exact v_zret dX1_hasOpenBlocks_12 rfl (by simp [*]) rfl
  · refine v_iconst (v := nI 1) 8 rfl dX1_hasOpenBlocks_7 (by decide) ?_
    refine v_goto 12 dX1_hasOpenBlocks_8 (by decide) ?_
    refine v_top (v' := bI true) (by decide) ?_
    exact v_zret dX1_hasOpenBlocks_12 rfl (by simp [*]) rfl

set_option maxRecDepth 100000 in
set_option maxHeartbeats 4000000 in
theorem c_hasEntry {D : va_G} {cI cZ cJ : ClassId} {l : Launch} {ad : Nat → Nat} {tg : Nat → Int32} {fn : Nat → Int32} {ki : Nat → Int32} {nu : Nat → Int32} {fi : Nat → Int32} {se : Nat → Int32} {ju : Nat → Int32} {op : Nat → Int32} {en : Nat} {sm : Nat} {ob : Nat} {be : Nat → Int32} {af : Nat → Int32} {pl : Int32} {rf : Int32} {rp : Int32} {rs : Nat} {ra : Nat} {rb : Int32} {rl : Nat} (a : Int32) : KM D (tyL cI cZ cJ) l yX1_hasEntry wsX1_hasEntry 1 21 [.ref (ad 4), .int a] (wC ad cI cZ tg fn ki nu fi se ju op en sm ob be af pl rf rp rs ra rb rl) (some (.int (bI (bel a (nI en))))) (wC ad cI cZ tg fn ki nu fi se ju op en sm ob be af pl rf rp rs ra rb rl) := by
  refine KM.of (cc := cX1_hasEntry) (nL := 2) (ret := (some .boolean)) (by decide +kernel) rfl (Nat.le_of_ble_eq_true rfl) ?_
  have i1 : ∀ w ∈ u_ws RX1 TX1 9, w ∈ wsX1_hasEntry := by decide +kernel
  refine v_iload_n 1 rfl dX1_hasEntry_0 rfl rfl ?_
  refine v_aload_n 2 rfl dX1_hasEntry_1 rfl rfl ?_
  refine v_get (ci := 1) (C := RX1) (T := TX1) (N := 9) (v := .int (nI en)) 5 rfl 4 6 dX1_hasEntry_2 rfl (Nat.le_of_ble_eq_true rfl) i1 (by decide +kernel) rfl rfl ?_
  refine v_callSN (n := 2) 8 rfl (c_isBelow a (nI en)) gX1_hasEntry_X4_isBelow_n40 rfl (by decide +kernel) (by decide +kernel) (by decide +kernel) (by decide +kernel) rfl ⟨(Nat.le_of_ble_eq_true rfl), (Nat.le_of_ble_eq_true rfl)⟩ rfl (Nat.le_of_ble_eq_true rfl) dX1_hasEntry_5 ⟨Nat.zero_le _, Nat.zero_le _⟩ ?_
  refine v_st (st' := [.int (bI (bel a (nI en)))]) rfl ?_
  exact v_zret dX1_hasEntry_8 rfl rfl rfl

set_option maxRecDepth 100000 in
set_option maxHeartbeats 4000000 in
theorem c_hasEntryT {D : va_G} {cI cZ cJ : ClassId} {l : Launch} {ad : Nat → Nat} {tg : Nat → Int32} {fn : Nat → Int32} {ki : Nat → Int32} {nu : Nat → Int32} {fi : Nat → Int32} {se : Nat → Int32} {ju : Nat → Int32} {op : Nat → Int32} {en : Nat} {sm : Nat} {ob : Nat} {be : Nat → Int32} {af : Nat → Int32} {pl : Int32} {rf : Int32} {rp : Int32} {rs : Nat} {ra : Nat} {rb : Int32} {rl : Nat} (a : Nat) (h : a < en) (hen : en ≤ 120) : KM D (tyL cI cZ cJ) l yX1_hasEntry wsX1_hasEntry 1 21 [.ref (ad 4), .int (nI a)] (wC ad cI cZ tg fn ki nu fi se ju op en sm ob be af pl rf rp rs ra rb rl) (some (.int (bI true))) (wC ad cI cZ tg fn ki nu fi se ju op en sm ob be af pl rf rp rs ra rb rl) := by
  refine KM.of (cc := cX1_hasEntry) (nL := 2) (ret := (some .boolean)) (by decide +kernel) rfl (Nat.le_of_ble_eq_true rfl) ?_
  have i1 : ∀ w ∈ u_ws RX1 TX1 9, w ∈ wsX1_hasEntry := by decide +kernel
  refine v_iload_n 1 rfl dX1_hasEntry_0 rfl rfl ?_
  refine v_aload_n 2 rfl dX1_hasEntry_1 rfl rfl ?_
  refine v_get (ci := 1) (C := RX1) (T := TX1) (N := 9) (v := .int (nI en)) 5 rfl 4 6 dX1_hasEntry_2 rfl (Nat.le_of_ble_eq_true rfl) i1 (by decide +kernel) rfl rfl ?_
  refine v_callSN (n := 2) 8 rfl (c_isBelowT a en (by omega) (by omega)) gX1_hasEntry_X4_isBelow_n40 rfl (by decide +kernel) (by decide +kernel) (by decide +kernel) (by decide +kernel) rfl ⟨(Nat.le_of_ble_eq_true rfl), (Nat.le_of_ble_eq_true rfl)⟩ rfl (Nat.le_of_ble_eq_true rfl) dX1_hasEntry_5 ⟨Nat.zero_le _, Nat.zero_le _⟩ ?_
  refine v_st (st' := [.int (bI true)]) rfl ?_
  exact v_zret dX1_hasEntry_8 rfl rfl rfl

set_option maxRecDepth 100000 in
set_option maxHeartbeats 4000000 in
theorem c_hasEntryF {D : va_G} {cI cZ cJ : ClassId} {l : Launch} {ad : Nat → Nat} {tg : Nat → Int32} {fn : Nat → Int32} {ki : Nat → Int32} {nu : Nat → Int32} {fi : Nat → Int32} {se : Nat → Int32} {ju : Nat → Int32} {op : Nat → Int32} {en : Nat} {sm : Nat} {ob : Nat} {be : Nat → Int32} {af : Nat → Int32} {pl : Int32} {rf : Int32} {rp : Int32} {rs : Nat} {ra : Nat} {rb : Int32} {rl : Nat} (a : Nat) (h : en ≤ a) (ha : a < 2 ^ 31) : KM D (tyL cI cZ cJ) l yX1_hasEntry wsX1_hasEntry 1 21 [.ref (ad 4), .int (nI a)] (wC ad cI cZ tg fn ki nu fi se ju op en sm ob be af pl rf rp rs ra rb rl) (some (.int (bI false))) (wC ad cI cZ tg fn ki nu fi se ju op en sm ob be af pl rf rp rs ra rb rl) := by
  refine KM.of (cc := cX1_hasEntry) (nL := 2) (ret := (some .boolean)) (by decide +kernel) rfl (Nat.le_of_ble_eq_true rfl) ?_
  have i1 : ∀ w ∈ u_ws RX1 TX1 9, w ∈ wsX1_hasEntry := by decide +kernel
  refine v_iload_n 1 rfl dX1_hasEntry_0 rfl rfl ?_
  refine v_aload_n 2 rfl dX1_hasEntry_1 rfl rfl ?_
  refine v_get (ci := 1) (C := RX1) (T := TX1) (N := 9) (v := .int (nI en)) 5 rfl 4 6 dX1_hasEntry_2 rfl (Nat.le_of_ble_eq_true rfl) i1 (by decide +kernel) rfl rfl ?_
  refine v_callSN (n := 2) 8 rfl (c_isBelowF a en (by omega) (by omega)) gX1_hasEntry_X4_isBelow_n40 rfl (by decide +kernel) (by decide +kernel) (by decide +kernel) (by decide +kernel) rfl ⟨(Nat.le_of_ble_eq_true rfl), (Nat.le_of_ble_eq_true rfl)⟩ rfl (Nat.le_of_ble_eq_true rfl) dX1_hasEntry_5 ⟨Nat.zero_le _, Nat.zero_le _⟩ ?_
  refine v_st (st' := [.int (bI false)]) rfl ?_
  exact v_zret dX1_hasEntry_8 rfl rfl rfl

theorem c_hasEntryM {D : va_G} {cI cZ cJ : ClassId} {l : Launch} {ad : Nat → Nat} {tg : Nat → Int32} {fn : Nat → Int32} {ki : Nat → Int32} {nu : Nat → Int32} {fi : Nat → Int32} {se : Nat → Int32} {ju : Nat → Int32} {op : Nat → Int32} {en : Nat} {sm : Nat} {ob : Nat} {be : Nat → Int32} {af : Nat → Int32} {pl : Int32} {rf : Int32} {rp : Int32} {rs : Nat} {ra : Nat} {rb : Int32} {rl : Nat} : KM D (tyL cI cZ cJ) l yX1_hasEntry wsX1_hasEntry 1 21 [.ref (ad 4), .int (-1)] (wC ad cI cZ tg fn ki nu fi se ju op en sm ob be af pl rf rp rs ra rb rl) (some (.int (bI false))) (wC ad cI cZ tg fn ki nu fi se ju op en sm ob be af pl rf rp rs ra rb rl) := by
  have := c_hasEntry (D := D) (cI := cI) (cZ := cZ) (cJ := cJ) (l := l) (ad := ad) (tg := tg) (fn := fn) (ki := ki) (nu := nu) (fi := fi) (se := se) (ju := ju) (op := op) (en := en) (sm := sm) (ob := ob) (be := be) (af := af) (pl := pl) (rf := rf) (rp := rp) (rs := rs) (ra := ra) (rb := rb) (rl := rl) (-1)
  rw [bel_m1] at this
  exact this

set_option maxRecDepth 100000 in
set_option maxHeartbeats 4000000 in
theorem c_addEntry {D : va_G} {cI cZ cJ : ClassId} {l : Launch} {ad : Nat → Nat} {tg : Nat → Int32} {fn : Nat → Int32} {ki : Nat → Int32} {nu : Nat → Int32} {fi : Nat → Int32} {se : Nat → Int32} {ju : Nat → Int32} {op : Nat → Int32} {en : Nat} {sm : Nat} {ob : Nat} {be : Nat → Int32} {af : Nat → Int32} {pl : Int32} {rf : Int32} {rp : Int32} {rs : Nat} {ra : Nat} {rb : Int32} {rl : Nat} (kd n f s : Int32) (hen : en < 120) : KM D (tyL cI cZ cJ) l yX1_addEntry wsX1_addEntry 0 0 [.ref (ad 4), .int kd, .int n, .int f, .int s] (wC ad cI cZ tg fn ki nu fi se ju op en sm ob be af pl rf rp rs ra rb rl) none (wC ad cI cZ tg fn (upd ki en kd) (upd nu en n) (upd fi en f) (upd se en s) ju op (en + 1) sm ob be af pl rf rp rs ra rb rl) := by
  refine KM.of (cc := cX1_addEntry) (nL := 5) (ret := none) (by decide +kernel) rfl (Nat.le_of_ble_eq_true rfl) ?_
  have i1 : ∀ w ∈ u_ws RX1 TX1 9, w ∈ wsX1_addEntry := by decide +kernel
  refine v_aload_n 1 rfl dX1_addEntry_0 rfl rfl ?_
  refine v_get (ci := 1) (C := RX1) (T := TX1) (N := 9) (v := .int (nI en)) 4 rfl 4 6 dX1_addEntry_1 rfl (Nat.le_of_ble_eq_true rfl) i1 (by decide +kernel) rfl rfl ?_
  refine v_bipush (v := nI 120) 6 rfl dX1_addEntry_4 (by decide) ?_
  refine v_icmp_geN (a := en) (b := 120) 60 9 rfl dX1_addEntry_6 (by decide) (by omega) (by omega) (fun q => False.elim (by omega)) (fun c6 => ?_)
  refine v_aload_n 10 rfl dX1_addEntry_9 rfl rfl ?_
  refine v_get (ci := 1) (C := RX1) (T := TX1) (N := 9) (v := .ref (ad 5)) 13 rfl 4 0 dX1_addEntry_10 rfl (Nat.le_of_ble_eq_true rfl) i1 (by decide +kernel) rfl rfl ?_
  refine v_aload_n 14 rfl dX1_addEntry_13 rfl rfl ?_
  refine v_get (ci := 1) (C := RX1) (T := TX1) (N := 9) (v := .int (nI en)) 17 rfl 4 6 dX1_addEntry_14 rfl (Nat.le_of_ble_eq_true rfl) i1 (by decide +kernel) rfl rfl ?_
  refine v_iload_n 18 rfl dX1_addEntry_17 rfl rfl ?_
  refine v_iast (j := en) (w' := wC ad cI cZ tg fn (upd ki en kd) nu fi se ju op en sm ob be af pl rf rp rs ra rb rl) 19 rfl 5 0 dX1_addEntry_18 rfl rfl (by omega) (by decide) rfl ?_
  refine v_aload_n 20 rfl dX1_addEntry_19 rfl rfl ?_
  refine v_get (ci := 1) (C := RX1) (T := TX1) (N := 9) (v := .ref (ad 6)) 23 rfl 4 1 dX1_addEntry_20 rfl (Nat.le_of_ble_eq_true rfl) i1 (by decide +kernel) rfl rfl ?_
  refine v_aload_n 24 rfl dX1_addEntry_23 rfl rfl ?_
  refine v_get (ci := 1) (C := RX1) (T := TX1) (N := 9) (v := .int (nI en)) 27 rfl 4 6 dX1_addEntry_24 rfl (Nat.le_of_ble_eq_true rfl) i1 (by decide +kernel) rfl rfl ?_
  refine v_iload_n 28 rfl dX1_addEntry_27 rfl rfl ?_
  refine v_iast (j := en) (w' := wC ad cI cZ tg fn (upd ki en kd) (upd nu en n) fi se ju op en sm ob be af pl rf rp rs ra rb rl) 29 rfl 6 0 dX1_addEntry_28 rfl rfl (by omega) (by decide) rfl ?_
  refine v_aload_n 30 rfl dX1_addEntry_29 rfl rfl ?_
  refine v_get (ci := 1) (C := RX1) (T := TX1) (N := 9) (v := .ref (ad 7)) 33 rfl 4 2 dX1_addEntry_30 rfl (Nat.le_of_ble_eq_true rfl) i1 (by decide +kernel) rfl rfl ?_
  refine v_aload_n 34 rfl dX1_addEntry_33 rfl rfl ?_
  refine v_get (ci := 1) (C := RX1) (T := TX1) (N := 9) (v := .int (nI en)) 37 rfl 4 6 dX1_addEntry_34 rfl (Nat.le_of_ble_eq_true rfl) i1 (by decide +kernel) rfl rfl ?_
  refine v_iload_n 38 rfl dX1_addEntry_37 rfl rfl ?_
  refine v_iast (j := en) (w' := wC ad cI cZ tg fn (upd ki en kd) (upd nu en n) (upd fi en f) se ju op en sm ob be af pl rf rp rs ra rb rl) 39 rfl 7 0 dX1_addEntry_38 rfl rfl (by omega) (by decide) rfl ?_
  refine v_aload_n 40 rfl dX1_addEntry_39 rfl rfl ?_
  refine v_get (ci := 1) (C := RX1) (T := TX1) (N := 9) (v := .ref (ad 8)) 43 rfl 4 3 dX1_addEntry_40 rfl (Nat.le_of_ble_eq_true rfl) i1 (by decide +kernel) rfl rfl ?_
  refine v_aload_n 44 rfl dX1_addEntry_43 rfl rfl ?_
  refine v_get (ci := 1) (C := RX1) (T := TX1) (N := 9) (v := .int (nI en)) 47 rfl 4 6 dX1_addEntry_44 rfl (Nat.le_of_ble_eq_true rfl) i1 (by decide +kernel) rfl rfl ?_
  refine v_iload 49 rfl dX1_addEntry_47 rfl ?_
  refine v_iast (j := en) (w' := wC ad cI cZ tg fn (upd ki en kd) (upd nu en n) (upd fi en f) (upd se en s) ju op en sm ob be af pl rf rp rs ra rb rl) 50 rfl 8 0 dX1_addEntry_49 rfl rfl (by omega) (by decide) rfl ?_
  refine v_aload_n 51 rfl dX1_addEntry_50 rfl rfl ?_
  refine v_dup 52 rfl dX1_addEntry_51 rfl ?_
  refine v_get (ci := 1) (C := RX1) (T := TX1) (N := 9) (v := .int (nI en)) 55 rfl 4 6 dX1_addEntry_52 rfl (Nat.le_of_ble_eq_true rfl) i1 (by decide +kernel) rfl rfl ?_
  refine v_iconst (v := nI 1) 56 rfl dX1_addEntry_55 (by decide) ?_
  refine v_iaddN (a := en) (b := 1) 57 rfl dX1_addEntry_56 ?_
  refine v_put (ci := 1) (C := RX1) (T := TX1) (ty0 := tyX1) (N := 9) (ty := .int) (w' := wC ad cI cZ tg fn (upd ki en kd) (upd nu en n) (upd fi en f) (upd se en s) ju op (en + 1) sm ob be af pl rf rp rs ra rb rl) 60 rfl 4 6 dX1_addEntry_57 rfl (Nat.le_of_ble_eq_true rfl) i1 tyX1_ok nmX1 (by decide +kernel) rfl (by decide +kernel) rfl rfl rfl (Nat.le_of_ble_eq_true rfl) rfl ?_
  exact v_vret dX1_addEntry_60 rfl rfl rfl

set_option maxRecDepth 100000 in
set_option maxHeartbeats 4000000 in
theorem c_addSimple {D : va_G} {cI cZ cJ : ClassId} {l : Launch} {ad : Nat → Nat} {tg : Nat → Int32} {fn : Nat → Int32} {ki : Nat → Int32} {nu : Nat → Int32} {fi : Nat → Int32} {se : Nat → Int32} {ju : Nat → Int32} {op : Nat → Int32} {en : Nat} {sm : Nat} {ob : Nat} {be : Nat → Int32} {af : Nat → Int32} {pl : Int32} {rf : Int32} {rp : Int32} {rs : Nat} {ra : Nat} {rb : Int32} {rl : Nat} (kd a b : Int32) (hs : sm < 40) (hen : en < 120) : KM D (tyL cI cZ cJ) l yX1_addSimple wsX1_addSimple 1 24 [.ref (ad 4), .int kd, .int a, .int b] (wC ad cI cZ tg fn ki nu fi se ju op en sm ob be af pl rf rp rs ra rb rl) (some (.int (nI sm))) (wC ad cI cZ tg fn (upd ki en kd) (upd nu en (nI sm)) (upd fi en a) (upd se en b) ju op (en + 1) (sm + 1) ob be af pl rf rp rs ra rb rl) := by
  refine KM.of (cc := cX1_addSimple) (nL := 4) (ret := (some .int)) (by decide +kernel) rfl (Nat.le_of_ble_eq_true rfl) ?_
  have i1 : ∀ w ∈ u_ws RX1 TX1 9, w ∈ wsX1_addSimple := by decide +kernel
  refine v_aload_n 1 rfl dX1_addSimple_0 rfl rfl ?_
  refine v_get (ci := 1) (C := RX1) (T := TX1) (N := 9) (v := .int (nI sm)) 4 rfl 4 7 dX1_addSimple_1 rfl (Nat.le_of_ble_eq_true rfl) i1 (by decide +kernel) rfl rfl ?_
  refine v_bipush (v := nI 40) 6 rfl dX1_addSimple_4 (by decide) ?_
  refine v_icmp_ltN (a := sm) (b := 40) 11 9 rfl dX1_addSimple_6 (by decide) (by omega) (by omega) (fun c6 => ?_) (fun q => False.elim (by omega))
  refine v_aload_n 12 rfl dX1_addSimple_11 rfl rfl ?_
  refine v_iload_n 13 rfl dX1_addSimple_12 rfl rfl ?_
  refine v_aload_n 14 rfl dX1_addSimple_13 rfl rfl ?_
  refine v_get (ci := 1) (C := RX1) (T := TX1) (N := 9) (v := .int (nI sm)) 17 rfl 4 7 dX1_addSimple_14 rfl (Nat.le_of_ble_eq_true rfl) i1 (by decide +kernel) rfl rfl ?_
  refine v_iload_n 18 rfl dX1_addSimple_17 rfl rfl ?_
  refine v_iload_n 19 rfl dX1_addSimple_18 rfl rfl ?_
  refine v_callF (n := 4) (q0 := 4) (ci := 1) 22 rfl (c_addEntry kd (nI sm) a b (by omega)) gX1_addSimple_X1_addEntry rfl (by decide +kernel) rfl ⟨(Nat.le_of_ble_eq_true rfl), (Nat.le_of_ble_eq_true rfl)⟩ rfl (Nat.le_of_ble_eq_true rfl) rfl rfl rfl dX1_addSimple_19 ⟨Nat.zero_le _, Nat.zero_le _⟩ rfl ?_
  refine v_st (st' := []) rfl ?_
  refine v_aload_n 23 rfl dX1_addSimple_22 rfl rfl ?_
  refine v_dup 24 rfl dX1_addSimple_23 rfl ?_
  refine v_get (ci := 1) (C := RX1) (T := TX1) (N := 9) (v := .int (nI sm)) 27 rfl 4 7 dX1_addSimple_24 rfl (Nat.le_of_ble_eq_true rfl) i1 (by decide +kernel) rfl rfl ?_
  refine v_dup_x1 28 rfl dX1_addSimple_27 rfl rfl ?_
  refine v_iconst (v := nI 1) 29 rfl dX1_addSimple_28 (by decide) ?_
  refine v_iaddN (a := sm) (b := 1) 30 rfl dX1_addSimple_29 ?_
  refine v_put (ci := 1) (C := RX1) (T := TX1) (ty0 := tyX1) (N := 9) (ty := .int) (w' := wC ad cI cZ tg fn (upd ki en kd) (upd nu en (nI sm)) (upd fi en a) (upd se en b) ju op (en + 1) (sm + 1) ob be af pl rf rp rs ra rb rl) 33 rfl 4 7 dX1_addSimple_30 rfl (Nat.le_of_ble_eq_true rfl) i1 tyX1_ok nmX1 (by decide +kernel) rfl (by decide +kernel) rfl rfl rfl (Nat.le_of_ble_eq_true rfl) rfl ?_
  exact v_iret dX1_addSimple_33 rfl rfl rfl

set_option maxRecDepth 100000 in
set_option maxHeartbeats 4000000 in
theorem c_addSimpleNo {D : va_G} {cI cZ cJ : ClassId} {l : Launch} {ad : Nat → Nat} {tg : Nat → Int32} {fn : Nat → Int32} {ki : Nat → Int32} {nu : Nat → Int32} {fi : Nat → Int32} {se : Nat → Int32} {ju : Nat → Int32} {op : Nat → Int32} {en : Nat} {sm : Nat} {ob : Nat} {be : Nat → Int32} {af : Nat → Int32} {pl : Int32} {rf : Int32} {rp : Int32} {rs : Nat} {ra : Nat} {rb : Int32} {rl : Nat} (kd a b : Int32) (hs : sm = 40) : KM D (tyL cI cZ cJ) l yX1_addSimple wsX1_addSimple 0 0 [.ref (ad 4), .int kd, .int a, .int b] (wC ad cI cZ tg fn ki nu fi se ju op en sm ob be af pl rf rp rs ra rb rl) (some (.int (-1))) (wC ad cI cZ tg fn ki nu fi se ju op en sm ob be af pl rf rp rs ra rb rl) := by
  refine KM.of (cc := cX1_addSimple) (nL := 4) (ret := (some .int)) (by decide +kernel) rfl (Nat.le_of_ble_eq_true rfl) ?_
  have i1 : ∀ w ∈ u_ws RX1 TX1 9, w ∈ wsX1_addSimple := by decide +kernel
  refine v_aload_n 1 rfl dX1_addSimple_0 rfl rfl ?_
  refine v_get (ci := 1) (C := RX1) (T := TX1) (N := 9) (v := .int (nI sm)) 4 rfl 4 7 dX1_addSimple_1 rfl (Nat.le_of_ble_eq_true rfl) i1 (by decide +kernel) rfl rfl ?_
  refine v_bipush (v := nI 40) 6 rfl dX1_addSimple_4 (by decide) ?_
  refine v_icmp_ltN (a := sm) (b := 40) 11 9 rfl dX1_addSimple_6 (by decide) (by omega) (by omega) (fun q => False.elim (by omega)) (fun c6 => ?_)
  refine v_iconst (v := -1) 10 rfl dX1_addSimple_9 (by decide) ?_
  exact v_iret dX1_addSimple_10 rfl rfl rfl

set_option maxRecDepth 100000 in
set_option maxHeartbeats 4000000 in
theorem c_addOpening {D : va_G} {cI cZ cJ : ClassId} {l : Launch} {ad : Nat → Nat} {tg : Nat → Int32} {fn : Nat → Int32} {ki : Nat → Int32} {nu : Nat → Int32} {fi : Nat → Int32} {se : Nat → Int32} {ju : Nat → Int32} {op : Nat → Int32} {en : Nat} {sm : Nat} {ob : Nat} {be : Nat → Int32} {af : Nat → Int32} {pl : Int32} {rf : Int32} {rp : Int32} {rs : Nat} {ra : Nat} {rb : Int32} {rl : Nat} (kd : Int32) (hs : sm < 40) (ho : ob < 6) (hen : en < 120) : KM D (tyL cI cZ cJ) l yX1_addOpening wsX1_addOpening 1 24 [.ref (ad 4), .int kd] (wC ad cI cZ tg fn ki nu fi se ju op en sm ob be af pl rf rp rs ra rb rl) (some (.int (nI sm))) (wC ad cI cZ tg fn (upd ki en kd) (upd nu en (nI sm)) (upd fi en (nI 0)) (upd se en (nI 0)) ju (upd op ob (nI en)) (en + 1) (sm + 1) (ob + 1) be af pl rf rp rs ra rb rl) := by
  refine KM.of (cc := cX1_addOpening) (nL := 2) (ret := (some .int)) (by decide +kernel) rfl (Nat.le_of_ble_eq_true rfl) ?_
  have i1 : ∀ w ∈ u_ws RX1 TX1 9, w ∈ wsX1_addOpening := by decide +kernel
  refine v_aload_n 1 rfl dX1_addOpening_0 rfl rfl ?_
  refine v_get (ci := 1) (C := RX1) (T := TX1) (N := 9) (v := .int (nI sm)) 4 rfl 4 7 dX1_addOpening_1 rfl (Nat.le_of_ble_eq_true rfl) i1 (by decide +kernel) rfl rfl ?_
  refine v_bipush (v := nI 40) 6 rfl dX1_addOpening_4 (by decide) ?_
  refine v_icmp_geN (a := sm) (b := 40) 18 9 rfl dX1_addOpening_6 (by decide) (by omega) (by omega) (fun q => False.elim (by omega)) (fun c6 => ?_)
  refine v_aload_n 10 rfl dX1_addOpening_9 rfl rfl ?_
  refine v_get (ci := 1) (C := RX1) (T := TX1) (N := 9) (v := .int (nI ob)) 13 rfl 4 8 dX1_addOpening_10 rfl (Nat.le_of_ble_eq_true rfl) i1 (by decide +kernel) rfl rfl ?_
  refine v_bipush (v := nI 6) 15 rfl dX1_addOpening_13 (by decide) ?_
  refine v_icmp_ltN (a := ob) (b := 6) 20 18 rfl dX1_addOpening_15 (by decide) (by omega) (by omega) (fun c15 => ?_) (fun q => False.elim (by omega))
  refine v_aload_n 21 rfl dX1_addOpening_20 rfl rfl ?_
  refine v_get (ci := 1) (C := RX1) (T := TX1) (N := 9) (v := .ref (ad 10)) 24 rfl 4 5 dX1_addOpening_21 rfl (Nat.le_of_ble_eq_true rfl) i1 (by decide +kernel) rfl rfl ?_
  refine v_aload_n 25 rfl dX1_addOpening_24 rfl rfl ?_
  refine v_get (ci := 1) (C := RX1) (T := TX1) (N := 9) (v := .int (nI ob)) 28 rfl 4 8 dX1_addOpening_25 rfl (Nat.le_of_ble_eq_true rfl) i1 (by decide +kernel) rfl rfl ?_
  refine v_aload_n 29 rfl dX1_addOpening_28 rfl rfl ?_
  refine v_get (ci := 1) (C := RX1) (T := TX1) (N := 9) (v := .int (nI en)) 32 rfl 4 6 dX1_addOpening_29 rfl (Nat.le_of_ble_eq_true rfl) i1 (by decide +kernel) rfl rfl ?_
  refine v_iast (j := ob) (w' := wC ad cI cZ tg fn ki nu fi se ju (upd op ob (nI en)) en sm ob be af pl rf rp rs ra rb rl) 33 rfl 10 0 dX1_addOpening_32 rfl rfl (by omega) (by decide) rfl ?_
  refine v_aload_n 34 rfl dX1_addOpening_33 rfl rfl ?_
  refine v_dup 35 rfl dX1_addOpening_34 rfl ?_
  refine v_get (ci := 1) (C := RX1) (T := TX1) (N := 9) (v := .int (nI ob)) 38 rfl 4 8 dX1_addOpening_35 rfl (Nat.le_of_ble_eq_true rfl) i1 (by decide +kernel) rfl rfl ?_
  refine v_iconst (v := nI 1) 39 rfl dX1_addOpening_38 (by decide) ?_
  refine v_iaddN (a := ob) (b := 1) 40 rfl dX1_addOpening_39 ?_
  refine v_put (ci := 1) (C := RX1) (T := TX1) (ty0 := tyX1) (N := 9) (ty := .int) (w' := wC ad cI cZ tg fn ki nu fi se ju (upd op ob (nI en)) en sm (ob + 1) be af pl rf rp rs ra rb rl) 43 rfl 4 8 dX1_addOpening_40 rfl (Nat.le_of_ble_eq_true rfl) i1 tyX1_ok nmX1 (by decide +kernel) rfl (by decide +kernel) rfl rfl rfl (Nat.le_of_ble_eq_true rfl) rfl ?_
  refine v_aload_n 44 rfl dX1_addOpening_43 rfl rfl ?_
  refine v_iload_n 45 rfl dX1_addOpening_44 rfl rfl ?_
  refine v_aload_n 46 rfl dX1_addOpening_45 rfl rfl ?_
  refine v_get (ci := 1) (C := RX1) (T := TX1) (N := 9) (v := .int (nI sm)) 49 rfl 4 7 dX1_addOpening_46 rfl (Nat.le_of_ble_eq_true rfl) i1 (by decide +kernel) rfl rfl ?_
  refine v_iconst (v := nI 0) 50 rfl dX1_addOpening_49 (by decide) ?_
  refine v_iconst (v := nI 0) 51 rfl dX1_addOpening_50 (by decide) ?_
  refine v_callF (n := 4) (q0 := 4) (ci := 1) 54 rfl (c_addEntry kd (nI sm) (nI 0) (nI 0) (by omega)) gX1_addOpening_X1_addEntry rfl (by decide +kernel) rfl ⟨(Nat.le_of_ble_eq_true rfl), (Nat.le_of_ble_eq_true rfl)⟩ rfl (Nat.le_of_ble_eq_true rfl) rfl rfl rfl dX1_addOpening_51 ⟨Nat.zero_le _, Nat.zero_le _⟩ rfl ?_
  refine v_st (st' := []) rfl ?_
  refine v_aload_n 55 rfl dX1_addOpening_54 rfl rfl ?_
  refine v_dup 56 rfl dX1_addOpening_55 rfl ?_
  refine v_get (ci := 1) (C := RX1) (T := TX1) (N := 9) (v := .int (nI sm)) 59 rfl 4 7 dX1_addOpening_56 rfl (Nat.le_of_ble_eq_true rfl) i1 (by decide +kernel) rfl rfl ?_
  refine v_dup_x1 60 rfl dX1_addOpening_59 rfl rfl ?_
  refine v_iconst (v := nI 1) 61 rfl dX1_addOpening_60 (by decide) ?_
  refine v_iaddN (a := sm) (b := 1) 62 rfl dX1_addOpening_61 ?_
  refine v_put (ci := 1) (C := RX1) (T := TX1) (ty0 := tyX1) (N := 9) (ty := .int) (w' := wC ad cI cZ tg fn (upd ki en kd) (upd nu en (nI sm)) (upd fi en (nI 0)) (upd se en (nI 0)) ju (upd op ob (nI en)) (en + 1) (sm + 1) (ob + 1) be af pl rf rp rs ra rb rl) 65 rfl 4 7 dX1_addOpening_62 rfl (Nat.le_of_ble_eq_true rfl) i1 tyX1_ok nmX1 (by decide +kernel) rfl (by decide +kernel) rfl rfl rfl (Nat.le_of_ble_eq_true rfl) rfl ?_
  exact v_iret dX1_addOpening_65 rfl rfl rfl

set_option maxRecDepth 100000 in
set_option maxHeartbeats 4000000 in
theorem c_addOpeningNo {D : va_G} {cI cZ cJ : ClassId} {l : Launch} {ad : Nat → Nat} {tg : Nat → Int32} {fn : Nat → Int32} {ki : Nat → Int32} {nu : Nat → Int32} {fi : Nat → Int32} {se : Nat → Int32} {ju : Nat → Int32} {op : Nat → Int32} {en : Nat} {sm : Nat} {ob : Nat} {be : Nat → Int32} {af : Nat → Int32} {pl : Int32} {rf : Int32} {rp : Int32} {rs : Nat} {ra : Nat} {rb : Int32} {rl : Nat} (kd : Int32) (hs : sm ≤ 40) (ho : ob ≤ 6) (h : sm = 40 ∨ ob = 6) : KM D (tyL cI cZ cJ) l yX1_addOpening wsX1_addOpening 0 0 [.ref (ad 4), .int kd] (wC ad cI cZ tg fn ki nu fi se ju op en sm ob be af pl rf rp rs ra rb rl) (some (.int (-1))) (wC ad cI cZ tg fn ki nu fi se ju op en sm ob be af pl rf rp rs ra rb rl) := by
  refine KM.of (cc := cX1_addOpening) (nL := 2) (ret := (some .int)) (by decide +kernel) rfl (Nat.le_of_ble_eq_true rfl) ?_
  have i1 : ∀ w ∈ u_ws RX1 TX1 9, w ∈ wsX1_addOpening := by decide +kernel
  refine v_aload_n 1 rfl dX1_addOpening_0 rfl rfl ?_
  refine v_get (ci := 1) (C := RX1) (T := TX1) (N := 9) (v := .int (nI sm)) 4 rfl 4 7 dX1_addOpening_1 rfl (Nat.le_of_ble_eq_true rfl) i1 (by decide +kernel) rfl rfl ?_
  refine v_bipush (v := nI 40) 6 rfl dX1_addOpening_4 (by decide) ?_
  refine v_icmp_geN (a := sm) (b := 40) 18 9 rfl dX1_addOpening_6 (by decide) (by omega) (by omega) (fun c6 => ?_) (fun c6 => ?_)
  · refine v_iconst (v := -1) 19 rfl dX1_addOpening_18 (by decide) ?_
    exact v_iret dX1_addOpening_19 rfl rfl rfl
  · refine v_aload_n 10 rfl dX1_addOpening_9 rfl rfl ?_
    refine v_get (ci := 1) (C := RX1) (T := TX1) (N := 9) (v := .int (nI ob)) 13 rfl 4 8 dX1_addOpening_10 rfl (Nat.le_of_ble_eq_true rfl) i1 (by decide +kernel) rfl rfl ?_
    refine v_bipush (v := nI 6) 15 rfl dX1_addOpening_13 (by decide) ?_
    refine v_icmp_ltN (a := ob) (b := 6) 20 18 rfl dX1_addOpening_15 (by decide) (by omega) (by omega) (fun q => False.elim (by omega)) (fun c15 => ?_)
    refine v_iconst (v := -1) 19 rfl dX1_addOpening_18 (by decide) ?_
    exact v_iret dX1_addOpening_19 rfl rfl rfl

set_option maxRecDepth 100000 in
set_option maxHeartbeats 4000000 in
theorem c_lastOpened {D : va_G} {cI cZ cJ : ClassId} {l : Launch} {ad : Nat → Nat} {tg : Nat → Int32} {fn : Nat → Int32} {ki : Nat → Int32} {nu : Nat → Int32} {fi : Nat → Int32} {se : Nat → Int32} {ju : Nat → Int32} {op : Nat → Int32} {en : Nat} {sm : Nat} {ob : Nat} {be : Nat → Int32} {af : Nat → Int32} {pl : Int32} {rf : Int32} {rp : Int32} {rs : Nat} {ra : Nat} {rb : Int32} {rl : Nat} (b : Int32) (h0 : 0 < ob) (ho : ob ≤ 6) (hb : op (ob - 1) = b) : KM D (tyL cI cZ cJ) l yX1_lastOpened wsX1_lastOpened 0 0 [.ref (ad 4)] (wC ad cI cZ tg fn ki nu fi se ju op en sm ob be af pl rf rp rs ra rb rl) (some (.int b)) (wC ad cI cZ tg fn ki nu fi se ju op en sm ob be af pl rf rp rs ra rb rl) := by
  refine KM.of (cc := cX1_lastOpened) (nL := 1) (ret := (some .int)) (by decide +kernel) rfl (Nat.le_of_ble_eq_true rfl) ?_
  have i1 : ∀ w ∈ u_ws RX1 TX1 9, w ∈ wsX1_lastOpened := by decide +kernel
  refine v_aload_n 1 rfl dX1_lastOpened_0 rfl rfl ?_
  refine v_get (ci := 1) (C := RX1) (T := TX1) (N := 9) (v := .int (nI ob)) 4 rfl 4 8 dX1_lastOpened_1 rfl (Nat.le_of_ble_eq_true rfl) i1 (by decide +kernel) rfl rfl ?_
  refine v_if_leN (a := ob) 21 7 rfl dX1_lastOpened_4 (by decide) (by omega) (fun q => False.elim (by omega)) (fun c4 => ?_)
  refine v_aload_n 8 rfl dX1_lastOpened_7 rfl rfl ?_
  refine v_get (ci := 1) (C := RX1) (T := TX1) (N := 9) (v := .ref (ad 10)) 11 rfl 4 5 dX1_lastOpened_8 rfl (Nat.le_of_ble_eq_true rfl) i1 (by decide +kernel) rfl rfl ?_
  refine v_aload_n 12 rfl dX1_lastOpened_11 rfl rfl ?_
  refine v_get (ci := 1) (C := RX1) (T := TX1) (N := 9) (v := .int (nI ob)) 15 rfl 4 8 dX1_lastOpened_12 rfl (Nat.le_of_ble_eq_true rfl) i1 (by decide +kernel) rfl rfl ?_
  refine v_iconst (v := nI 1) 16 rfl dX1_lastOpened_15 (by decide) ?_
  refine v_isubN (a := ob) (b := 1) 17 rfl dX1_lastOpened_16 (by omega) ?_
  refine v_iald (j := ob - 1) (v := b) 18 rfl 10 0 dX1_lastOpened_17 rfl rfl (by omega) (by decide) hb ?_
  refine v_goto 22 dX1_lastOpened_18 (by decide) ?_
  exact v_iret dX1_lastOpened_22 rfl rfl rfl

set_option maxRecDepth 100000 in
set_option maxHeartbeats 4000000 in
theorem c_lastOpenedNo {D : va_G} {cI cZ cJ : ClassId} {l : Launch} {ad : Nat → Nat} {tg : Nat → Int32} {fn : Nat → Int32} {ki : Nat → Int32} {nu : Nat → Int32} {fi : Nat → Int32} {se : Nat → Int32} {ju : Nat → Int32} {op : Nat → Int32} {en : Nat} {sm : Nat} {ob : Nat} {be : Nat → Int32} {af : Nat → Int32} {pl : Int32} {rf : Int32} {rp : Int32} {rs : Nat} {ra : Nat} {rb : Int32} {rl : Nat} (h0 : ob = 0) : KM D (tyL cI cZ cJ) l yX1_lastOpened wsX1_lastOpened 0 0 [.ref (ad 4)] (wC ad cI cZ tg fn ki nu fi se ju op en sm ob be af pl rf rp rs ra rb rl) (some (.int (-1))) (wC ad cI cZ tg fn ki nu fi se ju op en sm ob be af pl rf rp rs ra rb rl) := by
  refine KM.of (cc := cX1_lastOpened) (nL := 1) (ret := (some .int)) (by decide +kernel) rfl (Nat.le_of_ble_eq_true rfl) ?_
  have i1 : ∀ w ∈ u_ws RX1 TX1 9, w ∈ wsX1_lastOpened := by decide +kernel
  refine v_aload_n 1 rfl dX1_lastOpened_0 rfl rfl ?_
  refine v_get (ci := 1) (C := RX1) (T := TX1) (N := 9) (v := .int (nI ob)) 4 rfl 4 8 dX1_lastOpened_1 rfl (Nat.le_of_ble_eq_true rfl) i1 (by decide +kernel) rfl rfl ?_
  refine v_if_leN (a := ob) 21 7 rfl dX1_lastOpened_4 (by decide) (by omega) (fun c4 => ?_) (fun q => False.elim (by omega))
  refine v_iconst (v := -1) 22 rfl dX1_lastOpened_21 (by decide) ?_
  exact v_iret dX1_lastOpened_22 rfl rfl rfl

set_option maxRecDepth 100000 in
set_option maxHeartbeats 4000000 in
theorem c_beginElse0 {D : va_G} {cI cZ cJ : ClassId} {l : Launch} {ad : Nat → Nat} {tg : Nat → Int32} {fn : Nat → Int32} {ki : Nat → Int32} {nu : Nat → Int32} {fi : Nat → Int32} {se : Nat → Int32} {ju : Nat → Int32} {op : Nat → Int32} {en : Nat} {sm : Nat} {ob : Nat} {be : Nat → Int32} {af : Nat → Int32} {pl : Int32} {rf : Int32} {rp : Int32} {rs : Nat} {ra : Nat} {rb : Int32} {rl : Nat} (h0 : ob = 0) : KM D (tyL cI cZ cJ) l yX1_beginElse wsX1_beginElse 2 42 [.ref (ad 4)] (wC ad cI cZ tg fn ki nu fi se ju op en sm ob be af pl rf rp rs ra rb rl) (some (.int (bI false))) (wC ad cI cZ tg fn ki nu fi se ju op en sm ob be af pl rf rp rs ra rb rl) := by
  refine KM.of (cc := cX1_beginElse) (nL := 2) (ret := (some .boolean)) (by decide +kernel) rfl (Nat.le_of_ble_eq_true rfl) ?_
  refine v_aload_n 1 rfl dX1_beginElse_0 rfl rfl ?_
  refine v_callF (n := 0) (q0 := 4) (ci := 1) 4 rfl (c_lastOpenedNo (by omega)) gX1_beginElse_X1_lastOpened rfl (by decide +kernel) rfl ⟨(Nat.le_of_ble_eq_true rfl), (Nat.le_of_ble_eq_true rfl)⟩ rfl (Nat.le_of_ble_eq_true rfl) rfl rfl rfl dX1_beginElse_1 ⟨Nat.zero_le _, Nat.zero_le _⟩ rfl ?_
  refine v_st (st' := [.int (-1)]) rfl ?_
  refine v_istore_n (lv' := [(1, .int (-1)), (0, .ref (ad 4))]) 5 rfl dX1_beginElse_4 rfl (Nat.le_of_ble_eq_true rfl) rfl ?_
  refine v_aload_n 6 rfl dX1_beginElse_5 rfl rfl ?_
  refine v_iload_n 7 rfl dX1_beginElse_6 rfl rfl ?_
  refine v_callF (n := 1) (q0 := 4) (ci := 1) 10 rfl (c_hasEntryM) gX1_beginElse_X1_hasEntry rfl (by decide +kernel) rfl ⟨(Nat.le_of_ble_eq_true rfl), (Nat.le_of_ble_eq_true rfl)⟩ rfl (Nat.le_of_ble_eq_true rfl) rfl rfl rfl dX1_beginElse_7 ⟨Nat.zero_le _, Nat.zero_le _⟩ rfl ?_
  refine v_st (st' := [.int (bI false)]) rfl ?_
  refine v_if_eqB (b := false) 23 13 rfl dX1_beginElse_10 (by decide) (fun c10 => ?_) (fun q => False.elim (by cases q))
  refine v_iconst (v := nI 0) 24 rfl dX1_beginElse_23 (by decide) ?_
  refine v_top (v' := bI false) (by decide) ?_
  exact v_zret dX1_beginElse_24 rfl rfl rfl

set_option maxRecDepth 100000 in
set_option maxHeartbeats 4000000 in
theorem c_beginElseNo {D : va_G} {cI cZ cJ : ClassId} {l : Launch} {ad : Nat → Nat} {tg : Nat → Int32} {fn : Nat → Int32} {ki : Nat → Int32} {nu : Nat → Int32} {fi : Nat → Int32} {se : Nat → Int32} {ju : Nat → Int32} {op : Nat → Int32} {en : Nat} {sm : Nat} {ob : Nat} {be : Nat → Int32} {af : Nat → Int32} {pl : Int32} {rf : Int32} {rp : Int32} {rs : Nat} {ra : Nat} {rb : Int32} {rl : Nat} (b d : Nat) (h0 : 0 < ob) (ho : ob ≤ 6) (hb : op (ob - 1) = nI b) (hbe : b < en) (hen : en ≤ 120) (hk : ki b = nI d) (hd : d < 9) (hd4 : d ≠ 4) : KM D (tyL cI cZ cJ) l yX1_beginElse wsX1_beginElse 2 42 [.ref (ad 4)] (wC ad cI cZ tg fn ki nu fi se ju op en sm ob be af pl rf rp rs ra rb rl) (some (.int (bI false))) (wC ad cI cZ tg fn ki nu fi se ju op en sm ob be af pl rf rp rs ra rb rl) := by
  refine KM.of (cc := cX1_beginElse) (nL := 2) (ret := (some .boolean)) (by decide +kernel) rfl (Nat.le_of_ble_eq_true rfl) ?_
  have i1 : ∀ w ∈ u_ws RX1 TX1 9, w ∈ wsX1_beginElse := by decide +kernel
  refine v_aload_n 1 rfl dX1_beginElse_0 rfl rfl ?_
  refine v_callF (n := 0) (q0 := 4) (ci := 1) 4 rfl (c_lastOpened (nI b) (by omega) (by omega) hb) gX1_beginElse_X1_lastOpened rfl (by decide +kernel) rfl ⟨(Nat.le_of_ble_eq_true rfl), (Nat.le_of_ble_eq_true rfl)⟩ rfl (Nat.le_of_ble_eq_true rfl) rfl rfl rfl dX1_beginElse_1 ⟨Nat.zero_le _, Nat.zero_le _⟩ rfl ?_
  refine v_st (st' := [.int (nI b)]) rfl ?_
  refine v_istore_n (lv' := [(1, .int (nI b)), (0, .ref (ad 4))]) 5 rfl dX1_beginElse_4 rfl (Nat.le_of_ble_eq_true rfl) rfl ?_
  refine v_aload_n 6 rfl dX1_beginElse_5 rfl rfl ?_
  refine v_iload_n 7 rfl dX1_beginElse_6 rfl rfl ?_
  refine v_callF (n := 1) (q0 := 4) (ci := 1) 10 rfl (c_hasEntryT b (by omega) (by omega)) gX1_beginElse_X1_hasEntry rfl (by decide +kernel) rfl ⟨(Nat.le_of_ble_eq_true rfl), (Nat.le_of_ble_eq_true rfl)⟩ rfl (Nat.le_of_ble_eq_true rfl) rfl rfl rfl dX1_beginElse_7 ⟨Nat.zero_le _, Nat.zero_le _⟩ rfl ?_
  refine v_st (st' := [.int (bI true)]) rfl ?_
  refine v_if_eqB (b := true) 23 13 rfl dX1_beginElse_10 (by decide) (fun q => False.elim (by cases q)) (fun c10 => ?_)
  refine v_aload_n 14 rfl dX1_beginElse_13 rfl rfl ?_
  refine v_get (ci := 1) (C := RX1) (T := TX1) (N := 9) (v := .ref (ad 5)) 17 rfl 4 0 dX1_beginElse_14 rfl (Nat.le_of_ble_eq_true rfl) i1 (by decide +kernel) rfl rfl ?_
  refine v_iload_n 18 rfl dX1_beginElse_17 rfl rfl ?_
  refine v_iald (j := b) (v := nI d) 19 rfl 5 0 dX1_beginElse_18 rfl rfl (by omega) (by decide) hk ?_
  refine v_iconst (v := nI 4) 20 rfl dX1_beginElse_19 (by decide) ?_
  refine v_icmp_eqN (a := d) (b := 4) 25 23 rfl dX1_beginElse_20 (by decide) (by omega) (by omega) (fun q => False.elim (by omega)) (fun c20 => ?_)
  refine v_iconst (v := nI 0) 24 rfl dX1_beginElse_23 (by decide) ?_
  refine v_top (v' := bI false) (by decide) ?_
  exact v_zret dX1_beginElse_24 rfl rfl rfl

set_option maxRecDepth 100000 in
set_option maxHeartbeats 4000000 in
theorem c_beginElse {D : va_G} {cI cZ cJ : ClassId} {l : Launch} {ad : Nat → Nat} {tg : Nat → Int32} {fn : Nat → Int32} {ki : Nat → Int32} {nu : Nat → Int32} {fi : Nat → Int32} {se : Nat → Int32} {ju : Nat → Int32} {op : Nat → Int32} {en : Nat} {sm : Nat} {ob : Nat} {be : Nat → Int32} {af : Nat → Int32} {pl : Int32} {rf : Int32} {rp : Int32} {rs : Nat} {ra : Nat} {rb : Int32} {rl : Nat} (b : Nat) (n : Int32) (h0 : 0 < ob) (ho : ob ≤ 6) (hb : op (ob - 1) = nI b) (hbe : b < en) (hen : en < 120) (hk : ki b = nI 4) (hn : nu b = n) : KM D (tyL cI cZ cJ) l yX1_beginElse wsX1_beginElse 2 42 [.ref (ad 4)] (wC ad cI cZ tg fn ki nu fi se ju op en sm ob be af pl rf rp rs ra rb rl) (some (.int (bI true))) (wC ad cI cZ tg fn (upd ki en (nI 5)) (upd nu en n) (upd fi en (nI 0)) (upd se en (nI 0)) (upd ju b (nI (en + 1))) (upd op (ob - 1) (nI en)) (en + 1) sm ob be af pl rf rp rs ra rb rl) := by
  refine KM.of (cc := cX1_beginElse) (nL := 2) (ret := (some .boolean)) (by decide +kernel) rfl (Nat.le_of_ble_eq_true rfl) ?_
  have i1 : ∀ w ∈ u_ws RX1 TX1 9, w ∈ wsX1_beginElse := by decide +kernel
  refine v_aload_n 1 rfl dX1_beginElse_0 rfl rfl ?_
  refine v_callF (n := 0) (q0 := 4) (ci := 1) 4 rfl (c_lastOpened (nI b) (by omega) (by omega) hb) gX1_beginElse_X1_lastOpened rfl (by decide +kernel) rfl ⟨(Nat.le_of_ble_eq_true rfl), (Nat.le_of_ble_eq_true rfl)⟩ rfl (Nat.le_of_ble_eq_true rfl) rfl rfl rfl dX1_beginElse_1 ⟨Nat.zero_le _, Nat.zero_le _⟩ rfl ?_
  refine v_st (st' := [.int (nI b)]) rfl ?_
  refine v_istore_n (lv' := [(1, .int (nI b)), (0, .ref (ad 4))]) 5 rfl dX1_beginElse_4 rfl (Nat.le_of_ble_eq_true rfl) rfl ?_
  refine v_aload_n 6 rfl dX1_beginElse_5 rfl rfl ?_
  refine v_iload_n 7 rfl dX1_beginElse_6 rfl rfl ?_
  refine v_callF (n := 1) (q0 := 4) (ci := 1) 10 rfl (c_hasEntryT b (by omega) (by omega)) gX1_beginElse_X1_hasEntry rfl (by decide +kernel) rfl ⟨(Nat.le_of_ble_eq_true rfl), (Nat.le_of_ble_eq_true rfl)⟩ rfl (Nat.le_of_ble_eq_true rfl) rfl rfl rfl dX1_beginElse_7 ⟨Nat.zero_le _, Nat.zero_le _⟩ rfl ?_
  refine v_st (st' := [.int (bI true)]) rfl ?_
  refine v_if_eqB (b := true) 23 13 rfl dX1_beginElse_10 (by decide) (fun q => False.elim (by cases q)) (fun c10 => ?_)
  refine v_aload_n 14 rfl dX1_beginElse_13 rfl rfl ?_
  refine v_get (ci := 1) (C := RX1) (T := TX1) (N := 9) (v := .ref (ad 5)) 17 rfl 4 0 dX1_beginElse_14 rfl (Nat.le_of_ble_eq_true rfl) i1 (by decide +kernel) rfl rfl ?_
  refine v_iload_n 18 rfl dX1_beginElse_17 rfl rfl ?_
  refine v_iald (j := b) (v := nI 4) 19 rfl 5 0 dX1_beginElse_18 rfl rfl (by omega) (by decide) hk ?_
  refine v_iconst (v := nI 4) 20 rfl dX1_beginElse_19 (by decide) ?_
  refine v_icmp_eqN (a := 4) (b := 4) 25 23 rfl dX1_beginElse_20 (by decide) (by omega) (by omega) (fun c20 => ?_) (fun q => False.elim (by omega))
  refine v_aload_n 26 rfl dX1_beginElse_25 rfl rfl ?_
  refine v_get (ci := 1) (C := RX1) (T := TX1) (N := 9) (v := .ref (ad 10)) 29 rfl 4 5 dX1_beginElse_26 rfl (Nat.le_of_ble_eq_true rfl) i1 (by decide +kernel) rfl rfl ?_
  refine v_aload_n 30 rfl dX1_beginElse_29 rfl rfl ?_
  refine v_get (ci := 1) (C := RX1) (T := TX1) (N := 9) (v := .int (nI ob)) 33 rfl 4 8 dX1_beginElse_30 rfl (Nat.le_of_ble_eq_true rfl) i1 (by decide +kernel) rfl rfl ?_
  refine v_iconst (v := nI 1) 34 rfl dX1_beginElse_33 (by decide) ?_
  refine v_isubN (a := ob) (b := 1) 35 rfl dX1_beginElse_34 (by omega) ?_
  refine v_aload_n 36 rfl dX1_beginElse_35 rfl rfl ?_
  refine v_get (ci := 1) (C := RX1) (T := TX1) (N := 9) (v := .int (nI en)) 39 rfl 4 6 dX1_beginElse_36 rfl (Nat.le_of_ble_eq_true rfl) i1 (by decide +kernel) rfl rfl ?_
  refine v_iast (j := ob - 1) (w' := wC ad cI cZ tg fn ki nu fi se ju (upd op (ob - 1) (nI en)) en sm ob be af pl rf rp rs ra rb rl) 40 rfl 10 0 dX1_beginElse_39 rfl rfl (by omega) (by decide) rfl ?_
  refine v_aload_n 41 rfl dX1_beginElse_40 rfl rfl ?_
  refine v_iconst (v := nI 5) 42 rfl dX1_beginElse_41 (by decide) ?_
  refine v_aload_n 43 rfl dX1_beginElse_42 rfl rfl ?_
  refine v_get (ci := 1) (C := RX1) (T := TX1) (N := 9) (v := .ref (ad 6)) 46 rfl 4 1 dX1_beginElse_43 rfl (Nat.le_of_ble_eq_true rfl) i1 (by decide +kernel) rfl rfl ?_
  refine v_iload_n 47 rfl dX1_beginElse_46 rfl rfl ?_
  refine v_iald (j := b) (v := n) 48 rfl 6 0 dX1_beginElse_47 rfl rfl (by omega) (by decide) hn ?_
  refine v_iconst (v := nI 0) 49 rfl dX1_beginElse_48 (by decide) ?_
  refine v_iconst (v := nI 0) 50 rfl dX1_beginElse_49 (by decide) ?_
  refine v_callF (n := 4) (q0 := 4) (ci := 1) 53 rfl (c_addEntry (nI 5) n (nI 0) (nI 0) (by omega)) gX1_beginElse_X1_addEntry rfl (by decide +kernel) rfl ⟨(Nat.le_of_ble_eq_true rfl), (Nat.le_of_ble_eq_true rfl)⟩ rfl (Nat.le_of_ble_eq_true rfl) rfl rfl rfl dX1_beginElse_50 ⟨Nat.zero_le _, Nat.zero_le _⟩ rfl ?_
  refine v_st (st' := []) rfl ?_
  refine v_aload_n 54 rfl dX1_beginElse_53 rfl rfl ?_
  refine v_get (ci := 1) (C := RX1) (T := TX1) (N := 9) (v := .ref (ad 9)) 57 rfl 4 4 dX1_beginElse_54 rfl (Nat.le_of_ble_eq_true rfl) i1 (by decide +kernel) rfl rfl ?_
  refine v_iload_n 58 rfl dX1_beginElse_57 rfl rfl ?_
  refine v_aload_n 59 rfl dX1_beginElse_58 rfl rfl ?_
  refine v_get (ci := 1) (C := RX1) (T := TX1) (N := 9) (v := .int (nI (en + 1))) 62 rfl 4 6 dX1_beginElse_59 rfl (Nat.le_of_ble_eq_true rfl) i1 (by decide +kernel) rfl rfl ?_
  refine v_iast (j := b) (w' := wC ad cI cZ tg fn (upd ki en (nI 5)) (upd nu en n) (upd fi en (nI 0)) (upd se en (nI 0)) (upd ju b (nI (en + 1))) (upd op (ob - 1) (nI en)) (en + 1) sm ob be af pl rf rp rs ra rb rl) 63 rfl 9 0 dX1_beginElse_62 rfl rfl (by omega) (by decide) rfl ?_
  refine v_iconst (v := nI 1) 64 rfl dX1_beginElse_63 (by decide) ?_
  refine v_top (v' := bI true) (by decide) ?_
  exact v_zret dX1_beginElse_64 rfl rfl rfl

set_option maxRecDepth 100000 in
set_option maxHeartbeats 4000000 in
theorem c_endBlock0 {D : va_G} {cI cZ cJ : ClassId} {l : Launch} {ad : Nat → Nat} {tg : Nat → Int32} {fn : Nat → Int32} {ki : Nat → Int32} {nu : Nat → Int32} {fi : Nat → Int32} {se : Nat → Int32} {ju : Nat → Int32} {op : Nat → Int32} {en : Nat} {sm : Nat} {ob : Nat} {be : Nat → Int32} {af : Nat → Int32} {pl : Int32} {rf : Int32} {rp : Int32} {rs : Nat} {ra : Nat} {rb : Int32} {rl : Nat} (h0 : ob = 0) : KM D (tyL cI cZ cJ) l yX1_endBlock wsX1_endBlock 3 63 [.ref (ad 4)] (wC ad cI cZ tg fn ki nu fi se ju op en sm ob be af pl rf rp rs ra rb rl) (some (.int (bI false))) (wC ad cI cZ tg fn ki nu fi se ju op en sm ob be af pl rf rp rs ra rb rl) := by
  refine KM.of (cc := cX1_endBlock) (nL := 3) (ret := (some .boolean)) (by decide +kernel) rfl (Nat.le_of_ble_eq_true rfl) ?_
  refine v_aload_n 1 rfl dX1_endBlock_0 rfl rfl ?_
  refine v_callF (n := 0) (q0 := 4) (ci := 1) 4 rfl (c_beginElse0 (by omega)) gX1_endBlock_X1_beginElse rfl (by decide +kernel) rfl ⟨(Nat.le_of_ble_eq_true rfl), (Nat.le_of_ble_eq_true rfl)⟩ rfl (Nat.le_of_ble_eq_true rfl) rfl rfl rfl dX1_endBlock_1 ⟨Nat.zero_le _, Nat.zero_le _⟩ rfl ?_
  refine v_st (st' := [.int (bI false)]) rfl ?_
  refine v_pop 5 rfl dX1_endBlock_4 rfl ?_
  refine v_aload_n 6 rfl dX1_endBlock_5 rfl rfl ?_
  refine v_callF (n := 0) (q0 := 4) (ci := 1) 9 rfl (c_lastOpenedNo (by omega)) gX1_endBlock_X1_lastOpened rfl (by decide +kernel) rfl ⟨(Nat.le_of_ble_eq_true rfl), (Nat.le_of_ble_eq_true rfl)⟩ rfl (Nat.le_of_ble_eq_true rfl) rfl rfl rfl dX1_endBlock_6 ⟨Nat.zero_le _, Nat.zero_le _⟩ rfl ?_
  refine v_st (st' := [.int (-1)]) rfl ?_
  refine v_istore_n (lv' := [(1, .int (-1)), (0, .ref (ad 4))]) 10 rfl dX1_endBlock_9 rfl (Nat.le_of_ble_eq_true rfl) rfl ?_
  refine v_aload_n 11 rfl dX1_endBlock_10 rfl rfl ?_
  refine v_iload_n 12 rfl dX1_endBlock_11 rfl rfl ?_
  refine v_callF (n := 1) (q0 := 4) (ci := 1) 15 rfl (c_hasEntryM) gX1_endBlock_X1_hasEntry rfl (by decide +kernel) rfl ⟨(Nat.le_of_ble_eq_true rfl), (Nat.le_of_ble_eq_true rfl)⟩ rfl (Nat.le_of_ble_eq_true rfl) rfl rfl rfl dX1_endBlock_12 ⟨Nat.zero_le _, Nat.zero_le _⟩ rfl ?_
  refine v_st (st' := [.int (bI false)]) rfl ?_
  refine v_if_neB (b := false) 20 18 rfl dX1_endBlock_15 (by decide) (fun q => False.elim (by cases q)) (fun c15 => ?_)
  refine v_iconst (v := nI 0) 19 rfl dX1_endBlock_18 (by decide) ?_
  refine v_top (v' := bI false) (by decide) ?_
  exact v_zret dX1_endBlock_19 rfl rfl rfl

set_option maxRecDepth 100000 in
set_option maxHeartbeats 4000000 in
theorem c_endBlockW {D : va_G} {cI cZ cJ : ClassId} {l : Launch} {ad : Nat → Nat} {tg : Nat → Int32} {fn : Nat → Int32} {ki : Nat → Int32} {nu : Nat → Int32} {fi : Nat → Int32} {se : Nat → Int32} {ju : Nat → Int32} {op : Nat → Int32} {en : Nat} {sm : Nat} {ob : Nat} {be : Nat → Int32} {af : Nat → Int32} {pl : Int32} {rf : Int32} {rp : Int32} {rs : Nat} {ra : Nat} {rb : Int32} {rl : Nat} (b : Nat) (n : Int32) (h0 : 0 < ob) (ho : ob ≤ 6) (hb : op (ob - 1) = nI b) (hbe : b < en) (hen : en < 120) (hk : ki b = nI 7) (hn : nu b = n) : KM D (tyL cI cZ cJ) l yX1_endBlock wsX1_endBlock 3 63 [.ref (ad 4)] (wC ad cI cZ tg fn ki nu fi se ju op en sm ob be af pl rf rp rs ra rb rl) (some (.int (bI true))) (wC ad cI cZ tg fn (upd ki en (nI 8)) (upd nu en n) (upd fi en (nI 0)) (upd se en (nI 0)) (upd (upd ju b (nI (en + 1))) en (nI b)) op (en + 1) sm (ob - 1) be af pl rf rp rs ra rb rl) := by
  refine KM.of (cc := cX1_endBlock) (nL := 3) (ret := (some .boolean)) (by decide +kernel) rfl (Nat.le_of_ble_eq_true rfl) ?_
  have i1 : ∀ w ∈ u_ws RX1 TX1 9, w ∈ wsX1_endBlock := by decide +kernel
  refine v_aload_n 1 rfl dX1_endBlock_0 rfl rfl ?_
  refine v_callF (n := 0) (q0 := 4) (ci := 1) 4 rfl (c_beginElseNo b 7 (by omega) (by omega) hb (by omega) (by omega) hk (by omega) (by omega)) gX1_endBlock_X1_beginElse rfl (by decide +kernel) rfl ⟨(Nat.le_of_ble_eq_true rfl), (Nat.le_of_ble_eq_true rfl)⟩ rfl (Nat.le_of_ble_eq_true rfl) rfl rfl rfl dX1_endBlock_1 ⟨Nat.zero_le _, Nat.zero_le _⟩ rfl ?_
  refine v_st (st' := [.int (bI false)]) rfl ?_
  refine v_pop 5 rfl dX1_endBlock_4 rfl ?_
  refine v_aload_n 6 rfl dX1_endBlock_5 rfl rfl ?_
  refine v_callF (n := 0) (q0 := 4) (ci := 1) 9 rfl (c_lastOpened (nI b) (by omega) (by omega) hb) gX1_endBlock_X1_lastOpened rfl (by decide +kernel) rfl ⟨(Nat.le_of_ble_eq_true rfl), (Nat.le_of_ble_eq_true rfl)⟩ rfl (Nat.le_of_ble_eq_true rfl) rfl rfl rfl dX1_endBlock_6 ⟨Nat.zero_le _, Nat.zero_le _⟩ rfl ?_
  refine v_st (st' := [.int (nI b)]) rfl ?_
  refine v_istore_n (lv' := [(1, .int (nI b)), (0, .ref (ad 4))]) 10 rfl dX1_endBlock_9 rfl (Nat.le_of_ble_eq_true rfl) rfl ?_
  refine v_aload_n 11 rfl dX1_endBlock_10 rfl rfl ?_
  refine v_iload_n 12 rfl dX1_endBlock_11 rfl rfl ?_
  refine v_callF (n := 1) (q0 := 4) (ci := 1) 15 rfl (c_hasEntryT b (by omega) (by omega)) gX1_endBlock_X1_hasEntry rfl (by decide +kernel) rfl ⟨(Nat.le_of_ble_eq_true rfl), (Nat.le_of_ble_eq_true rfl)⟩ rfl (Nat.le_of_ble_eq_true rfl) rfl rfl rfl dX1_endBlock_12 ⟨Nat.zero_le _, Nat.zero_le _⟩ rfl ?_
  refine v_st (st' := [.int (bI true)]) rfl ?_
  refine v_if_neB (b := true) 20 18 rfl dX1_endBlock_15 (by decide) (fun c15 => ?_) (fun q => False.elim (by cases q))
  refine v_aload_n 21 rfl dX1_endBlock_20 rfl rfl ?_
  refine v_get (ci := 1) (C := RX1) (T := TX1) (N := 9) (v := .int (nI en)) 24 rfl 4 6 dX1_endBlock_21 rfl (Nat.le_of_ble_eq_true rfl) i1 (by decide +kernel) rfl rfl ?_
  refine v_istore_n (lv' := [(2, .int (nI en)), (1, .int (nI b)), (0, .ref (ad 4))]) 25 rfl dX1_endBlock_24 rfl (Nat.le_of_ble_eq_true rfl) rfl ?_
  refine v_aload_n 26 rfl dX1_endBlock_25 rfl rfl ?_
  refine v_aload_n 27 rfl dX1_endBlock_26 rfl rfl ?_
  refine v_get (ci := 1) (C := RX1) (T := TX1) (N := 9) (v := .ref (ad 5)) 30 rfl 4 0 dX1_endBlock_27 rfl (Nat.le_of_ble_eq_true rfl) i1 (by decide +kernel) rfl rfl ?_
  refine v_iload_n 31 rfl dX1_endBlock_30 rfl rfl ?_
  refine v_iald (j := b) (v := nI 7) 32 rfl 5 0 dX1_endBlock_31 rfl rfl (by omega) (by decide) hk ?_
  refine v_bipush (v := nI 7) 34 rfl dX1_endBlock_32 (by decide) ?_
  refine v_icmp_neN (a := 7) (b := 7) 42 37 rfl dX1_endBlock_34 (by decide) (by omega) (by omega) (fun q => False.elim (by omega)) (fun c34 => ?_)
  refine v_bipush (v := nI 8) 39 rfl dX1_endBlock_37 (by decide) ?_
  refine v_goto 44 dX1_endBlock_39 (by decide) ?_
  refine v_aload_n 45 rfl dX1_endBlock_44 rfl rfl ?_
  refine v_get (ci := 1) (C := RX1) (T := TX1) (N := 9) (v := .ref (ad 6)) 48 rfl 4 1 dX1_endBlock_45 rfl (Nat.le_of_ble_eq_true rfl) i1 (by decide +kernel) rfl rfl ?_
  refine v_iload_n 49 rfl dX1_endBlock_48 rfl rfl ?_
  refine v_iald (j := b) (v := n) 50 rfl 6 0 dX1_endBlock_49 rfl rfl (by omega) (by decide) hn ?_
  refine v_iconst (v := nI 0) 51 rfl dX1_endBlock_50 (by decide) ?_
  refine v_iconst (v := nI 0) 52 rfl dX1_endBlock_51 (by decide) ?_
  refine v_callF (n := 4) (q0 := 4) (ci := 1) 55 rfl (c_addEntry (nI 8) n (nI 0) (nI 0) (by omega)) gX1_endBlock_X1_addEntry rfl (by decide +kernel) rfl ⟨(Nat.le_of_ble_eq_true rfl), (Nat.le_of_ble_eq_true rfl)⟩ rfl (Nat.le_of_ble_eq_true rfl) rfl rfl rfl dX1_endBlock_52 ⟨Nat.zero_le _, Nat.zero_le _⟩ rfl ?_
  refine v_st (st' := []) rfl ?_
  refine v_aload_n 56 rfl dX1_endBlock_55 rfl rfl ?_
  refine v_get (ci := 1) (C := RX1) (T := TX1) (N := 9) (v := .ref (ad 9)) 59 rfl 4 4 dX1_endBlock_56 rfl (Nat.le_of_ble_eq_true rfl) i1 (by decide +kernel) rfl rfl ?_
  refine v_iload_n 60 rfl dX1_endBlock_59 rfl rfl ?_
  refine v_aload_n 61 rfl dX1_endBlock_60 rfl rfl ?_
  refine v_get (ci := 1) (C := RX1) (T := TX1) (N := 9) (v := .int (nI (en + 1))) 64 rfl 4 6 dX1_endBlock_61 rfl (Nat.le_of_ble_eq_true rfl) i1 (by decide +kernel) rfl rfl ?_
  refine v_iast (j := b) (w' := wC ad cI cZ tg fn (upd ki en (nI 8)) (upd nu en n) (upd fi en (nI 0)) (upd se en (nI 0)) (upd ju b (nI (en + 1))) op (en + 1) sm ob be af pl rf rp rs ra rb rl) 65 rfl 9 0 dX1_endBlock_64 rfl rfl (by omega) (by decide) rfl ?_
  refine v_aload_n 66 rfl dX1_endBlock_65 rfl rfl ?_
  refine v_get (ci := 1) (C := RX1) (T := TX1) (N := 9) (v := .ref (ad 5)) 69 rfl 4 0 dX1_endBlock_66 rfl (Nat.le_of_ble_eq_true rfl) i1 (by decide +kernel) rfl rfl ?_
  refine v_iload_n 70 rfl dX1_endBlock_69 rfl rfl ?_
  refine v_iald (j := b) (v := nI 7) 71 rfl 5 0 dX1_endBlock_70 rfl rfl (by omega) (by decide) (by rw [pk_un (by omega)]; exact hk) ?_
  refine v_bipush (v := nI 7) 73 rfl dX1_endBlock_71 (by decide) ?_
  refine v_icmp_neN (a := 7) (b := 7) 91 76 rfl dX1_endBlock_73 (by decide) (by omega) (by omega) (fun q => False.elim (by omega)) (fun c73 => ?_)
  refine v_aload_n 77 rfl dX1_endBlock_76 rfl rfl ?_
  refine v_iload_n 78 rfl dX1_endBlock_77 rfl rfl ?_
  refine v_callF (n := 1) (q0 := 4) (ci := 1) 81 rfl (c_hasEntryT en (by omega) (by omega)) gX1_endBlock_X1_hasEntry rfl (by decide +kernel) rfl ⟨(Nat.le_of_ble_eq_true rfl), (Nat.le_of_ble_eq_true rfl)⟩ rfl (Nat.le_of_ble_eq_true rfl) rfl rfl rfl dX1_endBlock_78 ⟨Nat.zero_le _, Nat.zero_le _⟩ rfl ?_
  refine v_st (st' := [.int (bI true)]) rfl ?_
  refine v_if_eqB (b := true) 91 84 rfl dX1_endBlock_81 (by decide) (fun q => False.elim (by cases q)) (fun c81 => ?_)
  refine v_aload_n 85 rfl dX1_endBlock_84 rfl rfl ?_
  refine v_get (ci := 1) (C := RX1) (T := TX1) (N := 9) (v := .ref (ad 9)) 88 rfl 4 4 dX1_endBlock_85 rfl (Nat.le_of_ble_eq_true rfl) i1 (by decide +kernel) rfl rfl ?_
  refine v_iload_n 89 rfl dX1_endBlock_88 rfl rfl ?_
  refine v_iload_n 90 rfl dX1_endBlock_89 rfl rfl ?_
  refine v_iast (j := en) (w' := wC ad cI cZ tg fn (upd ki en (nI 8)) (upd nu en n) (upd fi en (nI 0)) (upd se en (nI 0)) (upd (upd ju b (nI (en + 1))) en (nI b)) op (en + 1) sm ob be af pl rf rp rs ra rb rl) 91 rfl 9 0 dX1_endBlock_90 rfl rfl (by omega) (by decide) rfl ?_
  refine v_aload_n 92 rfl dX1_endBlock_91 rfl rfl ?_
  refine v_dup 93 rfl dX1_endBlock_92 rfl ?_
  refine v_get (ci := 1) (C := RX1) (T := TX1) (N := 9) (v := .int (nI ob)) 96 rfl 4 8 dX1_endBlock_93 rfl (Nat.le_of_ble_eq_true rfl) i1 (by decide +kernel) rfl rfl ?_
  refine v_iconst (v := nI 1) 97 rfl dX1_endBlock_96 (by decide) ?_
  refine v_isubN (a := ob) (b := 1) 98 rfl dX1_endBlock_97 (by omega) ?_
  refine v_put (ci := 1) (C := RX1) (T := TX1) (ty0 := tyX1) (N := 9) (ty := .int) (w' := wC ad cI cZ tg fn (upd ki en (nI 8)) (upd nu en n) (upd fi en (nI 0)) (upd se en (nI 0)) (upd (upd ju b (nI (en + 1))) en (nI b)) op (en + 1) sm (ob - 1) be af pl rf rp rs ra rb rl) 101 rfl 4 8 dX1_endBlock_98 rfl (Nat.le_of_ble_eq_true rfl) i1 tyX1_ok nmX1 (by decide +kernel) rfl (by decide +kernel) rfl rfl rfl (Nat.le_of_ble_eq_true rfl) rfl ?_
  refine v_iconst (v := nI 1) 102 rfl dX1_endBlock_101 (by decide) ?_
  refine v_top (v' := bI true) (by decide) ?_
  exact v_zret dX1_endBlock_102 rfl rfl rfl

set_option maxRecDepth 100000 in
set_option maxHeartbeats 4000000 in
theorem c_endBlockE {D : va_G} {cI cZ cJ : ClassId} {l : Launch} {ad : Nat → Nat} {tg : Nat → Int32} {fn : Nat → Int32} {ki : Nat → Int32} {nu : Nat → Int32} {fi : Nat → Int32} {se : Nat → Int32} {ju : Nat → Int32} {op : Nat → Int32} {en : Nat} {sm : Nat} {ob : Nat} {be : Nat → Int32} {af : Nat → Int32} {pl : Int32} {rf : Int32} {rp : Int32} {rs : Nat} {ra : Nat} {rb : Int32} {rl : Nat} (b : Nat) (n : Int32) (h0 : 0 < ob) (ho : ob ≤ 6) (hb : op (ob - 1) = nI b) (hbe : b < en) (hen : en < 120) (hk : ki b = nI 5) (hn : nu b = n) : KM D (tyL cI cZ cJ) l yX1_endBlock wsX1_endBlock 3 63 [.ref (ad 4)] (wC ad cI cZ tg fn ki nu fi se ju op en sm ob be af pl rf rp rs ra rb rl) (some (.int (bI true))) (wC ad cI cZ tg fn (upd ki en (nI 6)) (upd nu en n) (upd fi en (nI 0)) (upd se en (nI 0)) (upd ju b (nI (en + 1))) op (en + 1) sm (ob - 1) be af pl rf rp rs ra rb rl) := by
  refine KM.of (cc := cX1_endBlock) (nL := 3) (ret := (some .boolean)) (by decide +kernel) rfl (Nat.le_of_ble_eq_true rfl) ?_
  have i1 : ∀ w ∈ u_ws RX1 TX1 9, w ∈ wsX1_endBlock := by decide +kernel
  refine v_aload_n 1 rfl dX1_endBlock_0 rfl rfl ?_
  refine v_callF (n := 0) (q0 := 4) (ci := 1) 4 rfl (c_beginElseNo b 5 (by omega) (by omega) hb (by omega) (by omega) hk (by omega) (by omega)) gX1_endBlock_X1_beginElse rfl (by decide +kernel) rfl ⟨(Nat.le_of_ble_eq_true rfl), (Nat.le_of_ble_eq_true rfl)⟩ rfl (Nat.le_of_ble_eq_true rfl) rfl rfl rfl dX1_endBlock_1 ⟨Nat.zero_le _, Nat.zero_le _⟩ rfl ?_
  refine v_st (st' := [.int (bI false)]) rfl ?_
  refine v_pop 5 rfl dX1_endBlock_4 rfl ?_
  refine v_aload_n 6 rfl dX1_endBlock_5 rfl rfl ?_
  refine v_callF (n := 0) (q0 := 4) (ci := 1) 9 rfl (c_lastOpened (nI b) (by omega) (by omega) hb) gX1_endBlock_X1_lastOpened rfl (by decide +kernel) rfl ⟨(Nat.le_of_ble_eq_true rfl), (Nat.le_of_ble_eq_true rfl)⟩ rfl (Nat.le_of_ble_eq_true rfl) rfl rfl rfl dX1_endBlock_6 ⟨Nat.zero_le _, Nat.zero_le _⟩ rfl ?_
  refine v_st (st' := [.int (nI b)]) rfl ?_
  refine v_istore_n (lv' := [(1, .int (nI b)), (0, .ref (ad 4))]) 10 rfl dX1_endBlock_9 rfl (Nat.le_of_ble_eq_true rfl) rfl ?_
  refine v_aload_n 11 rfl dX1_endBlock_10 rfl rfl ?_
  refine v_iload_n 12 rfl dX1_endBlock_11 rfl rfl ?_
  refine v_callF (n := 1) (q0 := 4) (ci := 1) 15 rfl (c_hasEntryT b (by omega) (by omega)) gX1_endBlock_X1_hasEntry rfl (by decide +kernel) rfl ⟨(Nat.le_of_ble_eq_true rfl), (Nat.le_of_ble_eq_true rfl)⟩ rfl (Nat.le_of_ble_eq_true rfl) rfl rfl rfl dX1_endBlock_12 ⟨Nat.zero_le _, Nat.zero_le _⟩ rfl ?_
  refine v_st (st' := [.int (bI true)]) rfl ?_
  refine v_if_neB (b := true) 20 18 rfl dX1_endBlock_15 (by decide) (fun c15 => ?_) (fun q => False.elim (by cases q))
  refine v_aload_n 21 rfl dX1_endBlock_20 rfl rfl ?_
  refine v_get (ci := 1) (C := RX1) (T := TX1) (N := 9) (v := .int (nI en)) 24 rfl 4 6 dX1_endBlock_21 rfl (Nat.le_of_ble_eq_true rfl) i1 (by decide +kernel) rfl rfl ?_
  refine v_istore_n (lv' := [(2, .int (nI en)), (1, .int (nI b)), (0, .ref (ad 4))]) 25 rfl dX1_endBlock_24 rfl (Nat.le_of_ble_eq_true rfl) rfl ?_
  refine v_aload_n 26 rfl dX1_endBlock_25 rfl rfl ?_
  refine v_aload_n 27 rfl dX1_endBlock_26 rfl rfl ?_
  refine v_get (ci := 1) (C := RX1) (T := TX1) (N := 9) (v := .ref (ad 5)) 30 rfl 4 0 dX1_endBlock_27 rfl (Nat.le_of_ble_eq_true rfl) i1 (by decide +kernel) rfl rfl ?_
  refine v_iload_n 31 rfl dX1_endBlock_30 rfl rfl ?_
  refine v_iald (j := b) (v := nI 5) 32 rfl 5 0 dX1_endBlock_31 rfl rfl (by omega) (by decide) hk ?_
  refine v_bipush (v := nI 7) 34 rfl dX1_endBlock_32 (by decide) ?_
  refine v_icmp_neN (a := 5) (b := 7) 42 37 rfl dX1_endBlock_34 (by decide) (by omega) (by omega) (fun c34 => ?_) (fun q => False.elim (by omega))
  refine v_bipush (v := nI 6) 44 rfl dX1_endBlock_42 (by decide) ?_
  refine v_aload_n 45 rfl dX1_endBlock_44 rfl rfl ?_
  refine v_get (ci := 1) (C := RX1) (T := TX1) (N := 9) (v := .ref (ad 6)) 48 rfl 4 1 dX1_endBlock_45 rfl (Nat.le_of_ble_eq_true rfl) i1 (by decide +kernel) rfl rfl ?_
  refine v_iload_n 49 rfl dX1_endBlock_48 rfl rfl ?_
  refine v_iald (j := b) (v := n) 50 rfl 6 0 dX1_endBlock_49 rfl rfl (by omega) (by decide) hn ?_
  refine v_iconst (v := nI 0) 51 rfl dX1_endBlock_50 (by decide) ?_
  refine v_iconst (v := nI 0) 52 rfl dX1_endBlock_51 (by decide) ?_
  refine v_callF (n := 4) (q0 := 4) (ci := 1) 55 rfl (c_addEntry (nI 6) n (nI 0) (nI 0) (by omega)) gX1_endBlock_X1_addEntry rfl (by decide +kernel) rfl ⟨(Nat.le_of_ble_eq_true rfl), (Nat.le_of_ble_eq_true rfl)⟩ rfl (Nat.le_of_ble_eq_true rfl) rfl rfl rfl dX1_endBlock_52 ⟨Nat.zero_le _, Nat.zero_le _⟩ rfl ?_
  refine v_st (st' := []) rfl ?_
  refine v_aload_n 56 rfl dX1_endBlock_55 rfl rfl ?_
  refine v_get (ci := 1) (C := RX1) (T := TX1) (N := 9) (v := .ref (ad 9)) 59 rfl 4 4 dX1_endBlock_56 rfl (Nat.le_of_ble_eq_true rfl) i1 (by decide +kernel) rfl rfl ?_
  refine v_iload_n 60 rfl dX1_endBlock_59 rfl rfl ?_
  refine v_aload_n 61 rfl dX1_endBlock_60 rfl rfl ?_
  refine v_get (ci := 1) (C := RX1) (T := TX1) (N := 9) (v := .int (nI (en + 1))) 64 rfl 4 6 dX1_endBlock_61 rfl (Nat.le_of_ble_eq_true rfl) i1 (by decide +kernel) rfl rfl ?_
  refine v_iast (j := b) (w' := wC ad cI cZ tg fn (upd ki en (nI 6)) (upd nu en n) (upd fi en (nI 0)) (upd se en (nI 0)) (upd ju b (nI (en + 1))) op (en + 1) sm ob be af pl rf rp rs ra rb rl) 65 rfl 9 0 dX1_endBlock_64 rfl rfl (by omega) (by decide) rfl ?_
  refine v_aload_n 66 rfl dX1_endBlock_65 rfl rfl ?_
  refine v_get (ci := 1) (C := RX1) (T := TX1) (N := 9) (v := .ref (ad 5)) 69 rfl 4 0 dX1_endBlock_66 rfl (Nat.le_of_ble_eq_true rfl) i1 (by decide +kernel) rfl rfl ?_
  refine v_iload_n 70 rfl dX1_endBlock_69 rfl rfl ?_
  refine v_iald (j := b) (v := nI 5) 71 rfl 5 0 dX1_endBlock_70 rfl rfl (by omega) (by decide) (by rw [pk_un (by omega)]; exact hk) ?_
  refine v_bipush (v := nI 7) 73 rfl dX1_endBlock_71 (by decide) ?_
  refine v_icmp_neN (a := 5) (b := 7) 91 76 rfl dX1_endBlock_73 (by decide) (by omega) (by omega) (fun c73 => ?_) (fun q => False.elim (by omega))
  refine v_aload_n 92 rfl dX1_endBlock_91 rfl rfl ?_
  refine v_dup 93 rfl dX1_endBlock_92 rfl ?_
  refine v_get (ci := 1) (C := RX1) (T := TX1) (N := 9) (v := .int (nI ob)) 96 rfl 4 8 dX1_endBlock_93 rfl (Nat.le_of_ble_eq_true rfl) i1 (by decide +kernel) rfl rfl ?_
  refine v_iconst (v := nI 1) 97 rfl dX1_endBlock_96 (by decide) ?_
  refine v_isubN (a := ob) (b := 1) 98 rfl dX1_endBlock_97 (by omega) ?_
  refine v_put (ci := 1) (C := RX1) (T := TX1) (ty0 := tyX1) (N := 9) (ty := .int) (w' := wC ad cI cZ tg fn (upd ki en (nI 6)) (upd nu en n) (upd fi en (nI 0)) (upd se en (nI 0)) (upd ju b (nI (en + 1))) op (en + 1) sm (ob - 1) be af pl rf rp rs ra rb rl) 101 rfl 4 8 dX1_endBlock_98 rfl (Nat.le_of_ble_eq_true rfl) i1 tyX1_ok nmX1 (by decide +kernel) rfl (by decide +kernel) rfl rfl rfl (Nat.le_of_ble_eq_true rfl) rfl ?_
  refine v_iconst (v := nI 1) 102 rfl dX1_endBlock_101 (by decide) ?_
  refine v_top (v' := bI true) (by decide) ?_
  exact v_zret dX1_endBlock_102 rfl rfl rfl

set_option maxRecDepth 100000 in
set_option maxHeartbeats 4000000 in
theorem c_endBlockI {D : va_G} {cI cZ cJ : ClassId} {l : Launch} {ad : Nat → Nat} {tg : Nat → Int32} {fn : Nat → Int32} {ki : Nat → Int32} {nu : Nat → Int32} {fi : Nat → Int32} {se : Nat → Int32} {ju : Nat → Int32} {op : Nat → Int32} {en : Nat} {sm : Nat} {ob : Nat} {be : Nat → Int32} {af : Nat → Int32} {pl : Int32} {rf : Int32} {rp : Int32} {rs : Nat} {ra : Nat} {rb : Int32} {rl : Nat} (b : Nat) (n : Int32) (h0 : 0 < ob) (ho : ob ≤ 6) (hb : op (ob - 1) = nI b) (hbe : b < en) (hen : en + 1 < 120) (hk : ki b = nI 4) (hn : nu b = n) : KM D (tyL cI cZ cJ) l yX1_endBlock wsX1_endBlock 3 63 [.ref (ad 4)] (wC ad cI cZ tg fn ki nu fi se ju op en sm ob be af pl rf rp rs ra rb rl) (some (.int (bI true))) (wC ad cI cZ tg fn (upd (upd ki en (nI 5)) (en + 1) (nI 6)) (upd (upd nu en n) (en + 1) n) (upd (upd fi en (nI 0)) (en + 1) (nI 0)) (upd (upd se en (nI 0)) (en + 1) (nI 0)) (upd (upd ju b (nI (en + 1))) en (nI (en + 1 + 1))) (upd op (ob - 1) (nI en)) (en + 1 + 1) sm (ob - 1) be af pl rf rp rs ra rb rl) := by
  refine KM.of (cc := cX1_endBlock) (nL := 3) (ret := (some .boolean)) (by decide +kernel) rfl (Nat.le_of_ble_eq_true rfl) ?_
  have i1 : ∀ w ∈ u_ws RX1 TX1 9, w ∈ wsX1_endBlock := by decide +kernel
  refine v_aload_n 1 rfl dX1_endBlock_0 rfl rfl ?_
  refine v_callF (n := 0) (q0 := 4) (ci := 1) 4 rfl (c_beginElse b n (by omega) (by omega) hb (by omega) (by omega) hk hn) gX1_endBlock_X1_beginElse rfl (by decide +kernel) rfl ⟨(Nat.le_of_ble_eq_true rfl), (Nat.le_of_ble_eq_true rfl)⟩ rfl (Nat.le_of_ble_eq_true rfl) rfl rfl rfl dX1_endBlock_1 ⟨Nat.zero_le _, Nat.zero_le _⟩ rfl ?_
  refine v_st (st' := [.int (bI true)]) rfl ?_
  refine v_pop 5 rfl dX1_endBlock_4 rfl ?_
  refine v_aload_n 6 rfl dX1_endBlock_5 rfl rfl ?_
  refine v_callF (n := 0) (q0 := 4) (ci := 1) 9 rfl (c_lastOpened (nI en) (by omega) (by omega) pk_us) gX1_endBlock_X1_lastOpened rfl (by decide +kernel) rfl ⟨(Nat.le_of_ble_eq_true rfl), (Nat.le_of_ble_eq_true rfl)⟩ rfl (Nat.le_of_ble_eq_true rfl) rfl rfl rfl dX1_endBlock_6 ⟨Nat.zero_le _, Nat.zero_le _⟩ rfl ?_
  refine v_st (st' := [.int (nI en)]) rfl ?_
  refine v_istore_n (lv' := [(1, .int (nI en)), (0, .ref (ad 4))]) 10 rfl dX1_endBlock_9 rfl (Nat.le_of_ble_eq_true rfl) rfl ?_
  refine v_aload_n 11 rfl dX1_endBlock_10 rfl rfl ?_
  refine v_iload_n 12 rfl dX1_endBlock_11 rfl rfl ?_
  refine v_callF (n := 1) (q0 := 4) (ci := 1) 15 rfl (c_hasEntryT en (by omega) (by omega)) gX1_endBlock_X1_hasEntry rfl (by decide +kernel) rfl ⟨(Nat.le_of_ble_eq_true rfl), (Nat.le_of_ble_eq_true rfl)⟩ rfl (Nat.le_of_ble_eq_true rfl) rfl rfl rfl dX1_endBlock_12 ⟨Nat.zero_le _, Nat.zero_le _⟩ rfl ?_
  refine v_st (st' := [.int (bI true)]) rfl ?_
  refine v_if_neB (b := true) 20 18 rfl dX1_endBlock_15 (by decide) (fun c15 => ?_) (fun q => False.elim (by cases q))
  refine v_aload_n 21 rfl dX1_endBlock_20 rfl rfl ?_
  refine v_get (ci := 1) (C := RX1) (T := TX1) (N := 9) (v := .int (nI (en + 1))) 24 rfl 4 6 dX1_endBlock_21 rfl (Nat.le_of_ble_eq_true rfl) i1 (by decide +kernel) rfl rfl ?_
  refine v_istore_n (lv' := [(2, .int (nI (en + 1))), (1, .int (nI en)), (0, .ref (ad 4))]) 25 rfl dX1_endBlock_24 rfl (Nat.le_of_ble_eq_true rfl) rfl ?_
  refine v_aload_n 26 rfl dX1_endBlock_25 rfl rfl ?_
  refine v_aload_n 27 rfl dX1_endBlock_26 rfl rfl ?_
  refine v_get (ci := 1) (C := RX1) (T := TX1) (N := 9) (v := .ref (ad 5)) 30 rfl 4 0 dX1_endBlock_27 rfl (Nat.le_of_ble_eq_true rfl) i1 (by decide +kernel) rfl rfl ?_
  refine v_iload_n 31 rfl dX1_endBlock_30 rfl rfl ?_
  refine v_iald (j := en) (v := nI 5) 32 rfl 5 0 dX1_endBlock_31 rfl rfl (by omega) (by decide) pk_us ?_
  refine v_bipush (v := nI 7) 34 rfl dX1_endBlock_32 (by decide) ?_
  refine v_icmp_neN (a := 5) (b := 7) 42 37 rfl dX1_endBlock_34 (by decide) (by omega) (by omega) (fun c34 => ?_) (fun q => False.elim (by omega))
  refine v_bipush (v := nI 6) 44 rfl dX1_endBlock_42 (by decide) ?_
  refine v_aload_n 45 rfl dX1_endBlock_44 rfl rfl ?_
  refine v_get (ci := 1) (C := RX1) (T := TX1) (N := 9) (v := .ref (ad 6)) 48 rfl 4 1 dX1_endBlock_45 rfl (Nat.le_of_ble_eq_true rfl) i1 (by decide +kernel) rfl rfl ?_
  refine v_iload_n 49 rfl dX1_endBlock_48 rfl rfl ?_
  refine v_iald (j := en) (v := n) 50 rfl 6 0 dX1_endBlock_49 rfl rfl (by omega) (by decide) pk_us ?_
  refine v_iconst (v := nI 0) 51 rfl dX1_endBlock_50 (by decide) ?_
  refine v_iconst (v := nI 0) 52 rfl dX1_endBlock_51 (by decide) ?_
  refine v_callF (n := 4) (q0 := 4) (ci := 1) 55 rfl (c_addEntry (nI 6) n (nI 0) (nI 0) (by omega)) gX1_endBlock_X1_addEntry rfl (by decide +kernel) rfl ⟨(Nat.le_of_ble_eq_true rfl), (Nat.le_of_ble_eq_true rfl)⟩ rfl (Nat.le_of_ble_eq_true rfl) rfl rfl rfl dX1_endBlock_52 ⟨Nat.zero_le _, Nat.zero_le _⟩ rfl ?_
  refine v_st (st' := []) rfl ?_
  refine v_aload_n 56 rfl dX1_endBlock_55 rfl rfl ?_
  refine v_get (ci := 1) (C := RX1) (T := TX1) (N := 9) (v := .ref (ad 9)) 59 rfl 4 4 dX1_endBlock_56 rfl (Nat.le_of_ble_eq_true rfl) i1 (by decide +kernel) rfl rfl ?_
  refine v_iload_n 60 rfl dX1_endBlock_59 rfl rfl ?_
  refine v_aload_n 61 rfl dX1_endBlock_60 rfl rfl ?_
  refine v_get (ci := 1) (C := RX1) (T := TX1) (N := 9) (v := .int (nI (en + 1 + 1))) 64 rfl 4 6 dX1_endBlock_61 rfl (Nat.le_of_ble_eq_true rfl) i1 (by decide +kernel) rfl rfl ?_
  refine v_iast (j := en) (w' := wC ad cI cZ tg fn (upd (upd ki en (nI 5)) (en + 1) (nI 6)) (upd (upd nu en n) (en + 1) n) (upd (upd fi en (nI 0)) (en + 1) (nI 0)) (upd (upd se en (nI 0)) (en + 1) (nI 0)) (upd (upd ju b (nI (en + 1))) en (nI (en + 1 + 1))) (upd op (ob - 1) (nI en)) (en + 1 + 1) sm ob be af pl rf rp rs ra rb rl) 65 rfl 9 0 dX1_endBlock_64 rfl rfl (by omega) (by decide) rfl ?_
  refine v_aload_n 66 rfl dX1_endBlock_65 rfl rfl ?_
  refine v_get (ci := 1) (C := RX1) (T := TX1) (N := 9) (v := .ref (ad 5)) 69 rfl 4 0 dX1_endBlock_66 rfl (Nat.le_of_ble_eq_true rfl) i1 (by decide +kernel) rfl rfl ?_
  refine v_iload_n 70 rfl dX1_endBlock_69 rfl rfl ?_
  refine v_iald (j := en) (v := nI 5) 71 rfl 5 0 dX1_endBlock_70 rfl rfl (by omega) (by decide) (by rw [pk_un (by omega)]; exact pk_us) ?_
  refine v_bipush (v := nI 7) 73 rfl dX1_endBlock_71 (by decide) ?_
  refine v_icmp_neN (a := 5) (b := 7) 91 76 rfl dX1_endBlock_73 (by decide) (by omega) (by omega) (fun c73 => ?_) (fun q => False.elim (by omega))
  refine v_aload_n 92 rfl dX1_endBlock_91 rfl rfl ?_
  refine v_dup 93 rfl dX1_endBlock_92 rfl ?_
  refine v_get (ci := 1) (C := RX1) (T := TX1) (N := 9) (v := .int (nI ob)) 96 rfl 4 8 dX1_endBlock_93 rfl (Nat.le_of_ble_eq_true rfl) i1 (by decide +kernel) rfl rfl ?_
  refine v_iconst (v := nI 1) 97 rfl dX1_endBlock_96 (by decide) ?_
  refine v_isubN (a := ob) (b := 1) 98 rfl dX1_endBlock_97 (by omega) ?_
  refine v_put (ci := 1) (C := RX1) (T := TX1) (ty0 := tyX1) (N := 9) (ty := .int) (w' := wC ad cI cZ tg fn (upd (upd ki en (nI 5)) (en + 1) (nI 6)) (upd (upd nu en n) (en + 1) n) (upd (upd fi en (nI 0)) (en + 1) (nI 0)) (upd (upd se en (nI 0)) (en + 1) (nI 0)) (upd (upd ju b (nI (en + 1))) en (nI (en + 1 + 1))) (upd op (ob - 1) (nI en)) (en + 1 + 1) sm (ob - 1) be af pl rf rp rs ra rb rl) 101 rfl 4 8 dX1_endBlock_98 rfl (Nat.le_of_ble_eq_true rfl) i1 tyX1_ok nmX1 (by decide +kernel) rfl (by decide +kernel) rfl rfl rfl (Nat.le_of_ble_eq_true rfl) rfl ?_
  refine v_iconst (v := nI 1) 102 rfl dX1_endBlock_101 (by decide) ?_
  refine v_top (v' := bI true) (by decide) ?_
  exact v_zret dX1_endBlock_102 rfl rfl rfl

