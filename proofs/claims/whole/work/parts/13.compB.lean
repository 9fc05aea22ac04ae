def tN (x : Int32) : Nat := x.toNatClampNeg
theorem tN_nI {n : Nat} (h : n < 2 ^ 31) : tN (nI n) = n := nI_clamp h
def fillF (f : Nat → Int32) (n : Nat) (v : Int32) : Nat → Int32 := fun j => if j < n then v else f j
theorem fillF_0 (f : Nat → Int32) (v : Int32) : fillF f 0 v = f := by funext j; simp [fillF]
theorem fillF_s (f : Nat → Int32) (i : Nat) (v : Int32) : upd (fillF f i v) i v = fillF f (i + 1) v := by
  funext j
  simp only [upd, fillF]
  by_cases h : j = i
  · simp [h]
  · by_cases h2 : j < i
    · simp [h, h2, Nat.lt_succ_of_lt h2]
    · simp [h, h2, show ¬ j < i + 1 by omega]
theorem oI_m1 {n : Nat} (h : n < 2 ^ 31) : oI n = -1 ↔ n = 0 := ⟨fun z => oI_inj h (by omega) (z.trans oI_0.symm), fun z => by rw [z]; exact oI_0⟩
/-- an answer that is a number A, or a fault f below zero -/
def fI (f A : Nat) : Int32 := if f = 0 then nI A else -nI f
theorem fI_0 (A : Nat) : fI 0 A = nI A := rfl
theorem fI_s {f : Nat} (h : f ≠ 0) (A : Nat) : fI f A = -nI f := by simp [fI, h]
theorem neg_lt : ∀ f, f < 9 → f ≠ 0 → -nI f < 0 := by decide
theorem neg_neg9 : ∀ f, f < 9 → -(-nI f) = nI f := by decide
/-- whether some variable from v on, of m, holds an object that may not be left -/
def leav (fb : Nat → Bool) (A : Nat) : Nat → Nat → Nat
  | 0, _ => 0
  | m + 1, v => if hb A v ≠ 0 ∧ fb (hb A v - 1) = false then 7 else leav fb A m (v + 1)
/-- a MAKE, CALL, MOVE or DROP (d) of v and x: its fault, what is held behind it -/
def sim (tn : Nat → Nat) (fb : Nat → Bool) (d v x A : Nat) : Nat × Nat :=
  if d = 0 then (if hb A v ≠ 0 then (1, A) else (0, wh A v (8 * x + 1)))
  else if hb A v = 0 then (2, A)
  else if d = 1 then (if tn ((hb A v - 1) * 4 + x) = 0 then (3, A) else (0, wh A v (8 * ((hb A v - 1) / 8) + tn ((hb A v - 1) * 4 + x))))
  else if d = 2 then (if hb A x ≠ 0 then (1, A) else (0, wh (wh A v 0) x (hb A v)))
  else if fb (hb A v - 1) = true then (0, wh A v 0) else (4, A)

set_option maxRecDepth 100000 in
theorem c_fill {D : va_G} {cI cZ cJ : ClassId} {l : Launch} (w : va_W) (q a n : Nat) (f : Nat → Int32) (v : Int32) (hq : w[q]? = some (a, .inl (cI, n, .inl f))) (hn : n < 2 ^ 31) : KM D (tyL cI cZ cJ) l yJ7_fill_53178 wsJ7_fill_53178 0 0 [.ref a, .int v] w none (w.set q (a, .inl (cI, n, .inl (fillF f n v)))) := by
  refine KM.of (cc := cJ7_fill_53178) (nL := 4) (ret := none) (by decide +kernel) rfl (Nat.le_of_ble_eq_true rfl) ?_
  have hlt : q < w.length := (List.getElem?_eq_some_iff.mp hq).1
  have hs0 : ∀ e : va_E, (w.set q (a, e))[q]? = some (a, e) := fun e => by simp [List.getElem?_set, hlt]
  have loop : ∀ (m i : Nat), i + m = n → V (xM D (tyL cI cZ cJ) l 0 0 w none (w.set q (a, .inl (cI, n, .inl (fillF f n v))))) (cJ7_fill_53178, wsJ7_fill_53178, yJ7_fill_53178.cls, 4, none, yJ7_fill_53178.name) 0 0 (w.set q (a, .inl (cI, n, .inl (fillF f i v)))) 5 [(2, .int (nI i)), (0, .ref a), (1, .int v), (3, .int (nI n))] [] := by
    intro m
    induction m with
    | zero =>
      intro i hi
      refine v_iload_n 6 rfl dJ7_fill_53178_5 rfl rfl ?_
      refine v_iload_n 7 rfl dJ7_fill_53178_6 rfl rfl ?_
      refine v_icmp_geN (a := i) (b := n) 20 10 rfl dJ7_fill_53178_7 (by decide) (by omega) (by omega) (fun c7 => ?_) (fun c7 => False.elim (by omega))
      exact v_vret dJ7_fill_53178_20 rfl rfl (by rw [show i = n by omega])
    | succ m ih =>
      intro i hi
      refine v_iload_n 6 rfl dJ7_fill_53178_5 rfl rfl ?_
      refine v_iload_n 7 rfl dJ7_fill_53178_6 rfl rfl ?_
      refine v_icmp_geN (a := i) (b := n) 20 10 rfl dJ7_fill_53178_7 (by decide) (by omega) (by omega) (fun c7 => False.elim (by omega)) (fun c7 => ?_)
      refine v_aload_n 11 rfl dJ7_fill_53178_10 rfl rfl ?_
      refine v_iload_n 12 rfl dJ7_fill_53178_11 rfl rfl ?_
      refine v_iload_n 13 rfl dJ7_fill_53178_12 rfl rfl ?_
      refine v_iast (j := i) (w' := w.set q (a, .inl (cI, n, .inl (fillF f (i + 1) v)))) 14 rfl q 0 dJ7_fill_53178_13 (hs0 _) rfl (by omega) hn (by rw [List.set_set, fillF_s]) ?_
      refine v_iinc (v := nI (i + 1)) (lv' := [(2, .int (nI (i + 1))), (0, .ref a), (1, .int v), (3, .int (nI n))]) 17 rfl dJ7_fill_53178_14 0 rfl (nI_add _ _) (Nat.le_of_ble_eq_true rfl) rfl ?_
      refine v_goto 5 dJ7_fill_53178_17 (by decide) ?_
      exact ih (i + 1) (by omega)
  refine v_iconst (v := nI 0) 1 rfl dJ7_fill_53178_0 (by decide) ?_
  refine v_istore_n (lv' := [(2, .int (nI 0)), (0, .ref a), (1, .int v)]) 2 rfl dJ7_fill_53178_1 rfl (Nat.le_of_ble_eq_true rfl) rfl ?_
  refine v_aload_n 3 rfl dJ7_fill_53178_2 rfl rfl ?_
  refine v_alen 4 rfl q 0 dJ7_fill_53178_3 hq rfl ?_
  refine v_istore_n (lv' := [(3, .int (nI n)), (2, .int (nI 0)), (0, .ref a), (1, .int v)]) 5 rfl dJ7_fill_53178_4 rfl (Nat.le_of_ble_eq_true rfl) rfl ?_
  refine v_lv [1, 2, 3, 0] rfl ?_
  have h0 : w = w.set q (a, .inl (cI, n, .inl (fillF f 0 v))) := by
    rw [fillF_0]
    apply List.ext_getElem?
    intro i
    rw [List.getElem?_set]
    by_cases h : q = i
    · subst h; rw [hq]; simp [hlt]
    · simp [h]
  refine v_w h0 ?_
  exact loop n 0 (by omega)

set_option maxRecDepth 100000 in
set_option maxHeartbeats 4000000 in
theorem c_faultOfLeaving {D : va_G} {cI cZ cJ : ClassId} {l : Launch} {ad : Nat → Nat} {tg : Nat → Int32} {fn : Nat → Int32} {ki : Nat → Int32} {nu : Nat → Int32} {fi : Nat → Int32} {se : Nat → Int32} {ju : Nat → Int32} {op : Nat → Int32} {en : Nat} {sm : Nat} {ob : Nat} {be : Nat → Int32} {af : Nat → Int32} {pl : Int32} {rf : Int32} {rp : Int32} {rs : Nat} {ra : Nat} {rb : Int32} {rl : Nat} (fb : Nat → Bool) (A : Nat) (hA : A < 2 ^ 20) (hfn : ∀ o, o < 24 → fn o = bI (fb o)) (hob : ∀ v, v < 4 → hb A v ≤ 24)  : KM D (tyL cI cZ cJ) l yX2_faultOfLeaving wsX2_faultOfLeaving 2 42 [.ref (ad 1), .int (nI A)] (wC ad cI cZ tg fn ki nu fi se ju op en sm ob be af pl rf rp rs ra rb rl) (some (.int (nI (leav fb A 4 0)))) (wC ad cI cZ tg fn ki nu fi se ju op en sm ob be af pl rf rp rs ra rb rl) := by
  refine KM.of (cc := cX2_faultOfLeaving) (nL := 4) (ret := (some .int)) (by decide +kernel) rfl (Nat.le_of_ble_eq_true rfl) ?_

  have loop : ∀ (R m i : Nat), i + m = 4 → leav fb A m i = R → V (xM D (tyL cI cZ cJ) l 2 42 (wC ad cI cZ tg fn ki nu fi se ju op en sm ob be af pl rf rp rs ra rb rl) (some (.int (nI R))) (wC ad cI cZ tg fn ki nu fi se ju op en sm ob be af pl rf rp rs ra rb rl)) (cX2_faultOfLeaving, wsX2_faultOfLeaving, yX2_faultOfLeaving.cls, 4, (some .int), yX2_faultOfLeaving.name) 0 0 (wC ad cI cZ tg fn ki nu fi se ju op en sm ob be af pl rf rp rs ra rb rl) 2 [(2, .int (nI i)), (0, .ref (ad 1)), (1, .int (nI A))] [] := by
    intro R m
    induction m with
    | zero =>
      intro i hi hres
      refine v_iload_n 3 rfl dX2_faultOfLeaving_2 rfl rfl ?_
      refine v_iconst (v := nI 4) 4 rfl dX2_faultOfLeaving_3 (by decide) ?_
      refine v_icmp_geN (a := i) (b := 4) 35 7 rfl dX2_faultOfLeaving_4 (by decide) (by omega) (by omega) (fun c4 => ?_) (fun c4 => False.elim (by omega))
      refine v_iconst (v := nI 0) 36 rfl dX2_faultOfLeaving_35 (by decide) ?_
      exact v_iret dX2_faultOfLeaving_36 rfl (by rw [← hres]; rfl) rfl
    | succ m ih =>
      intro i hi hres
      refine v_iload_n 3 rfl dX2_faultOfLeaving_2 rfl rfl ?_
      refine v_iconst (v := nI 4) 4 rfl dX2_faultOfLeaving_3 (by decide) ?_
      refine v_icmp_geN (a := i) (b := 4) 35 7 rfl dX2_faultOfLeaving_4 (by decide) (by omega) (by omega) (fun c4 => False.elim (by omega)) (fun c4 => ?_)
      refine v_iload_n 8 rfl dX2_faultOfLeaving_7 rfl rfl ?_
      refine v_iload_n 9 rfl dX2_faultOfLeaving_8 rfl rfl ?_
      refine v_callSN (n := 2) 12 rfl (c_heldBy A i (by omega) (by omega)) gX2_faultOfLeaving_X4_heldBy_n29 rfl (by decide +kernel) (by decide +kernel) (by decide +kernel) (by decide +kernel) rfl ⟨(Nat.le_of_ble_eq_true rfl), (Nat.le_of_ble_eq_true rfl)⟩ rfl (Nat.le_of_ble_eq_true rfl) dX2_faultOfLeaving_9 ⟨Nat.zero_le _, Nat.zero_le _⟩ ?_
      refine v_st (st' := [.int (oI (hb A i))]) rfl ?_
      refine v_istore_n (lv' := [(3, .int (oI (hb A i))), (2, .int (nI i)), (0, .ref (ad 1)), (1, .int (nI A))]) 13 rfl dX2_faultOfLeaving_12 rfl (Nat.le_of_ble_eq_true rfl) rfl ?_
      refine v_iload_n 14 rfl dX2_faultOfLeaving_13 rfl rfl ?_
      refine v_iconst (v := -1) 15 rfl dX2_faultOfLeaving_14 (by decide) ?_
      refine v_icmp_eq 29 18 rfl dX2_faultOfLeaving_15 (by decide) (fun c15 => ?_) (fun c15 => ?_)
      · have z : hb A i = 0 := (oI_m1 (by have := hb_lt A i; omega)).mp c15
        have hres' : leav fb A m (i + 1) = R := by rw [← hres]; simp [leav, z]
        refine v_iinc (v := nI (i + 1)) (lv' := [(2, .int (nI (i + 1))), (3, .int (oI (hb A i))), (0, .ref (ad 1)), (1, .int (nI A))]) 32 rfl dX2_faultOfLeaving_29 1 rfl (nI_add _ _) (Nat.le_of_ble_eq_true rfl) rfl ?_
        refine v_goto 2 dX2_faultOfLeaving_32 (by decide) ?_
        refine v_lv [0, 2, 3] rfl ?_
        exact ih (i + 1) (by omega) hres'
      · have z : hb A i ≠ 0 := fun h => c15 ((oI_m1 (by have := hb_lt A i; omega)).mpr h)
        have hle := hob i (by omega)
        refine v_aload_n 19 rfl dX2_faultOfLeaving_18 rfl rfl ?_
        refine v_iload_n 20 rfl dX2_faultOfLeaving_19 rfl rfl ?_
        refine v_top (v' := nI (hb A i - 1)) (oI_p (by omega)) ?_
        refine v_callF (n := 1) (q0 := 1) (ci := 2) 23 rfl (c_mayBeLeft (hb A i - 1) (fb (hb A i - 1)) (by omega) (hfn _ (by omega))) gX2_faultOfLeaving_X2_mayBeLeft rfl (by decide +kernel) rfl ⟨(Nat.le_of_ble_eq_true rfl), (Nat.le_of_ble_eq_true rfl)⟩ rfl (Nat.le_of_ble_eq_true rfl) rfl rfl rfl dX2_faultOfLeaving_20 ⟨Nat.zero_le _, Nat.zero_le _⟩ rfl ?_
        refine v_st (st' := [.int (bI (fb (hb A i - 1)))]) rfl ?_
        refine v_if_neB (b := fb (hb A i - 1)) 29 26 rfl dX2_faultOfLeaving_23 (by decide) (fun c23 => ?_) (fun c23 => ?_)
        · have hres' : leav fb A m (i + 1) = R := by rw [← hres]; simp [leav, z, c23]
          refine v_iinc (v := nI (i + 1)) (lv' := [(2, .int (nI (i + 1))), (3, .int (oI (hb A i))), (0, .ref (ad 1)), (1, .int (nI A))]) 32 rfl dX2_faultOfLeaving_29 1 rfl (nI_add _ _) (Nat.le_of_ble_eq_true rfl) rfl ?_
          refine v_goto 2 dX2_faultOfLeaving_32 (by decide) ?_
          refine v_lv [0, 2, 3] rfl ?_
          exact ih (i + 1) (by omega) hres'
        · have hR : R = 7 := by rw [← hres]; simp [leav, z, c23]
          refine v_bipush (v := nI 7) 28 rfl dX2_faultOfLeaving_26 (by decide) ?_
          exact v_iret dX2_faultOfLeaving_28 rfl (by rw [hR]) rfl
  refine v_iconst (v := nI 0) 1 rfl dX2_faultOfLeaving_0 (by decide) ?_
  refine v_istore_n (lv' := [(2, .int (nI 0)), (0, .ref (ad 1)), (1, .int (nI A))]) 2 rfl dX2_faultOfLeaving_1 rfl (Nat.le_of_ble_eq_true rfl) rfl ?_
  exact loop _ 4 0 rfl rfl

set_option maxRecDepth 100000 in
set_option maxHeartbeats 4000000 in
theorem c_afterSimple0 {D : va_G} {cI cZ cJ : ClassId} {l : Launch} {ad : Nat → Nat} {tg : Nat → Int32} {fn : Nat → Int32} {ki : Nat → Int32} {nu : Nat → Int32} {fi : Nat → Int32} {se : Nat → Int32} {ju : Nat → Int32} {op : Nat → Int32} {en : Nat} {sm : Nat} {ob : Nat} {be : Nat → Int32} {af : Nat → Int32} {pl : Int32} {rf : Int32} {rp : Int32} {rs : Nat} {ra : Nat} {rb : Int32} {rl : Nat} (tn : Nat → Nat) (fb : Nat → Bool) (t v x A : Nat) (hte : t < en) (hen : en ≤ 120) (hv : v < 4) (hA : A < 2 ^ 20) (hf : fi t = nI v) (hs : se t = nI x) (hk : ki t = nI 0) (hx : x < 3) : KM D (tyL cI cZ cJ) l yX1_afterSimple wsX1_afterSimple 2 43 [.ref (ad 4), .int (nI t), .int (nI A), .ref (ad 1)] (wC ad cI cZ tg fn ki nu fi se ju op en sm ob be af pl rf rp rs ra rb rl) (some (.int (fI (sim tn fb 0 v x A).1 (sim tn fb 0 v x A).2))) (wC ad cI cZ tg fn ki nu fi se ju op en sm ob be af pl rf rp rs ra rb rl) := by
  refine KM.of (cc := cX1_afterSimple) (nL := 8) (ret := (some .int)) (by decide +kernel) rfl (Nat.le_of_ble_eq_true rfl) ?_
  have i1 : ∀ w ∈ u_ws RX1 TX1 9, w ∈ wsX1_afterSimple := by decide +kernel
  refine v_aload_n 1 rfl dX1_afterSimple_0 rfl rfl ?_
  refine v_iload_n 2 rfl dX1_afterSimple_1 rfl rfl ?_
  refine v_callF (n := 1) (q0 := 4) (ci := 1) 5 rfl (c_hasEntryT t (by omega) (by omega)) gX1_afterSimple_X1_hasEntry rfl (by decide +kernel) rfl ⟨(Nat.le_of_ble_eq_true rfl), (Nat.le_of_ble_eq_true rfl)⟩ rfl (Nat.le_of_ble_eq_true rfl) rfl rfl rfl dX1_afterSimple_2 ⟨Nat.zero_le _, Nat.zero_le _⟩ rfl ?_
  refine v_st (st' := [.int (bI true)]) rfl ?_
  refine v_if_neB (b := true) 10 8 rfl dX1_afterSimple_5 (by decide) (fun c5 => ?_) (fun q => False.elim (by cases q))
  refine v_aload_n 11 rfl dX1_afterSimple_10 rfl rfl ?_
  refine v_get (ci := 1) (C := RX1) (T := TX1) (N := 9) (v := .ref (ad 7)) 14 rfl 4 2 dX1_afterSimple_11 rfl (Nat.le_of_ble_eq_true rfl) i1 (by decide +kernel) rfl rfl ?_
  refine v_iload_n 15 rfl dX1_afterSimple_14 rfl rfl ?_
  refine v_iald (j := t) (v := nI v) 16 rfl 7 0 dX1_afterSimple_15 rfl rfl (by omega) (by decide) hf ?_
  refine v_istore (lv' := [(4, .int (nI v)), (0, .ref (ad 4)), (1, .int (nI t)), (2, .int (nI A)), (3, .ref (ad 1))]) 18 rfl dX1_afterSimple_16 (Nat.le_of_ble_eq_true rfl) rfl ?_
  refine v_aload_n 19 rfl dX1_afterSimple_18 rfl rfl ?_
  refine v_get (ci := 1) (C := RX1) (T := TX1) (N := 9) (v := .ref (ad 8)) 22 rfl 4 3 dX1_afterSimple_19 rfl (Nat.le_of_ble_eq_true rfl) i1 (by decide +kernel) rfl rfl ?_
  refine v_iload_n 23 rfl dX1_afterSimple_22 rfl rfl ?_
  refine v_iald (j := t) (v := nI x) 24 rfl 8 0 dX1_afterSimple_23 rfl rfl (by omega) (by decide) hs ?_
  refine v_istore (lv' := [(5, .int (nI x)), (4, .int (nI v)), (0, .ref (ad 4)), (1, .int (nI t)), (2, .int (nI A)), (3, .ref (ad 1))]) 26 rfl dX1_afterSimple_24 (Nat.le_of_ble_eq_true rfl) rfl ?_
  refine v_iload_n 27 rfl dX1_afterSimple_26 rfl rfl ?_
  refine v_iload 29 rfl dX1_afterSimple_27 rfl ?_
  refine v_callSN (n := 2) 32 rfl (c_heldBy A v (by omega) (by omega)) gX1_afterSimple_X4_heldBy_n60 rfl (by decide +kernel) (by decide +kernel) (by decide +kernel) (by decide +kernel) rfl ⟨(Nat.le_of_ble_eq_true rfl), (Nat.le_of_ble_eq_true rfl)⟩ rfl (Nat.le_of_ble_eq_true rfl) dX1_afterSimple_29 ⟨Nat.zero_le _, Nat.zero_le _⟩ ?_
  refine v_st (st' := [.int (oI (hb A v))]) rfl ?_
  refine v_istore (lv' := [(6, .int (oI (hb A v))), (5, .int (nI x)), (4, .int (nI v)), (0, .ref (ad 4)), (1, .int (nI t)), (2, .int (nI A)), (3, .ref (ad 1))]) 34 rfl dX1_afterSimple_32 (Nat.le_of_ble_eq_true rfl) rfl ?_
  refine v_aload_n 35 rfl dX1_afterSimple_34 rfl rfl ?_
  refine v_get (ci := 1) (C := RX1) (T := TX1) (N := 9) (v := .ref (ad 5)) 38 rfl 4 0 dX1_afterSimple_35 rfl (Nat.le_of_ble_eq_true rfl) i1 (by decide +kernel) rfl rfl ?_
  refine v_iload_n 39 rfl dX1_afterSimple_38 rfl rfl ?_
  refine v_iald (j := t) (v := nI 0) 40 rfl 5 0 dX1_afterSimple_39 rfl rfl (by omega) (by decide) hk ?_
  refine v_if_neN (a := 0) 66 43 rfl dX1_afterSimple_40 (by decide) (by omega) (fun q => False.elim (by omega)) (fun c40 => ?_)
  refine v_iload 45 rfl dX1_afterSimple_43 rfl ?_
  refine v_iconst (v := -1) 46 rfl dX1_afterSimple_45 (by decide) ?_
  refine v_icmp_eq 53 49 rfl dX1_afterSimple_46 (by decide) (fun c46 => ?_) (fun c46 => ?_)
  · have z : hb A v = 0 := (oI_m1 (by have := hb_lt A v; omega)).mp c46
    refine v_iload_n 54 rfl dX1_afterSimple_53 rfl rfl ?_
    refine v_iload 56 rfl dX1_afterSimple_54 rfl ?_
    refine v_iload 58 rfl dX1_afterSimple_56 rfl ?_
    refine v_iconst (v := nI 0) 59 rfl dX1_afterSimple_58 (by decide) ?_
    refine v_callSN (n := 2) 62 rfl (c_objectOf x 0) gX1_afterSimple_X4_objectOf_n64 rfl (by decide +kernel) (by decide +kernel) (by decide +kernel) (by decide +kernel) rfl ⟨(Nat.le_of_ble_eq_true rfl), (Nat.le_of_ble_eq_true rfl)⟩ rfl (Nat.le_of_ble_eq_true rfl) dX1_afterSimple_59 ⟨Nat.zero_le _, Nat.zero_le _⟩ ?_
    refine v_st (st' := [.int (nI (8 * x + 0)), .int (nI v), .int (nI A)]) rfl ?_
    refine v_top (v' := oI (8 * x + 1)) (oI_s (8 * x)).symm ?_
    refine v_callSN (n := 3) 65 rfl (c_withHeld A v (8 * x + 1) (by first | omega | exact wh_lt hA hv (by omega)) (by omega) (by omega)) gX1_afterSimple_X4_withHeld_n67 rfl (by decide +kernel) (by decide +kernel) (by decide +kernel) (by decide +kernel) rfl ⟨(Nat.le_of_ble_eq_true rfl), (Nat.le_of_ble_eq_true rfl)⟩ rfl (Nat.le_of_ble_eq_true rfl) dX1_afterSimple_62 ⟨Nat.zero_le _, Nat.zero_le _⟩ ?_
    refine v_st (st' := [.int (nI (wh A v (8 * x + 1)))]) rfl ?_
    exact v_iret dX1_afterSimple_65 rfl (by simp [sim, fI, *] <;> rfl) rfl
  · have z : hb A v ≠ 0 := fun h => c46 ((oI_m1 (by have := hb_lt A v; omega)).mpr h)
    have hle := hb_lt A v
    refine v_iconst (v := -1) 50 rfl dX1_afterSimple_49 (by decide) ?_
    refine v_goto 65 dX1_afterSimple_50 (by decide) ?_
    exact v_iret dX1_afterSimple_65 rfl (by simp [sim, fI, *] <;> rfl) rfl

set_option maxRecDepth 100000 in
set_option maxHeartbeats 4000000 in
theorem c_afterSimple1 {D : va_G} {cI cZ cJ : ClassId} {l : Launch} {ad : Nat → Nat} {tg : Nat → Int32} {fn : Nat → Int32} {ki : Nat → Int32} {nu : Nat → Int32} {fi : Nat → Int32} {se : Nat → Int32} {ju : Nat → Int32} {op : Nat → Int32} {en : Nat} {sm : Nat} {ob : Nat} {be : Nat → Int32} {af : Nat → Int32} {pl : Int32} {rf : Int32} {rp : Int32} {rs : Nat} {ra : Nat} {rb : Int32} {rl : Nat} (tn : Nat → Nat) (fb : Nat → Bool) (t v x A : Nat) (hte : t < en) (hen : en ≤ 120) (hv : v < 4) (hA : A < 2 ^ 20) (hf : fi t = nI v) (hs : se t = nI x) (hk : ki t = nI 1) (hx : x < 4) (hob : hb A v ≤ 24) (ht : tg ((hb A v - 1) * 4 + x) = oI (tn ((hb A v - 1) * 4 + x))) (hti : tn ((hb A v - 1) * 4 + x) ≤ 5) : KM D (tyL cI cZ cJ) l yX1_afterSimple wsX1_afterSimple 2 43 [.ref (ad 4), .int (nI t), .int (nI A), .ref (ad 1)] (wC ad cI cZ tg fn ki nu fi se ju op en sm ob be af pl rf rp rs ra rb rl) (some (.int (fI (sim tn fb 1 v x A).1 (sim tn fb 1 v x A).2))) (wC ad cI cZ tg fn ki nu fi se ju op en sm ob be af pl rf rp rs ra rb rl) := by
  refine KM.of (cc := cX1_afterSimple) (nL := 8) (ret := (some .int)) (by decide +kernel) rfl (Nat.le_of_ble_eq_true rfl) ?_
  have i1 : ∀ w ∈ u_ws RX1 TX1 9, w ∈ wsX1_afterSimple := by decide +kernel
  refine v_aload_n 1 rfl dX1_afterSimple_0 rfl rfl ?_
  refine v_iload_n 2 rfl dX1_afterSimple_1 rfl rfl ?_
  refine v_callF (n := 1) (q0 := 4) (ci := 1) 5 rfl (c_hasEntryT t (by omega) (by omega)) gX1_afterSimple_X1_hasEntry rfl (by decide +kernel) rfl ⟨(Nat.le_of_ble_eq_true rfl), (Nat.le_of_ble_eq_true rfl)⟩ rfl (Nat.le_of_ble_eq_true rfl) rfl rfl rfl dX1_afterSimple_2 ⟨Nat.zero_le _, Nat.zero_le _⟩ rfl ?_
  refine v_st (st' := [.int (bI true)]) rfl ?_
  refine v_if_neB (b := true) 10 8 rfl dX1_afterSimple_5 (by decide) (fun c5 => ?_) (fun q => False.elim (by cases q))
  refine v_aload_n 11 rfl dX1_afterSimple_10 rfl rfl ?_
  refine v_get (ci := 1) (C := RX1) (T := TX1) (N := 9) (v := .ref (ad 7)) 14 rfl 4 2 dX1_afterSimple_11 rfl (Nat.le_of_ble_eq_true rfl) i1 (by decide +kernel) rfl rfl ?_
  refine v_iload_n 15 rfl dX1_afterSimple_14 rfl rfl ?_
  refine v_iald (j := t) (v := nI v) 16 rfl 7 0 dX1_afterSimple_15 rfl rfl (by omega) (by decide) hf ?_
  refine v_istore (lv' := [(4, .int (nI v)), (0, .ref (ad 4)), (1, .int (nI t)), (2, .int (nI A)), (3, .ref (ad 1))]) 18 rfl dX1_afterSimple_16 (Nat.le_of_ble_eq_true rfl) rfl ?_
  refine v_aload_n 19 rfl dX1_afterSimple_18 rfl rfl ?_
  refine v_get (ci := 1) (C := RX1) (T := TX1) (N := 9) (v := .ref (ad 8)) 22 rfl 4 3 dX1_afterSimple_19 rfl (Nat.le_of_ble_eq_true rfl) i1 (by decide +kernel) rfl rfl ?_
  refine v_iload_n 23 rfl dX1_afterSimple_22 rfl rfl ?_
  refine v_iald (j := t) (v := nI x) 24 rfl 8 0 dX1_afterSimple_23 rfl rfl (by omega) (by decide) hs ?_
  refine v_istore (lv' := [(5, .int (nI x)), (4, .int (nI v)), (0, .ref (ad 4)), (1, .int (nI t)), (2, .int (nI A)), (3, .ref (ad 1))]) 26 rfl dX1_afterSimple_24 (Nat.le_of_ble_eq_true rfl) rfl ?_
  refine v_iload_n 27 rfl dX1_afterSimple_26 rfl rfl ?_
  refine v_iload 29 rfl dX1_afterSimple_27 rfl ?_
  refine v_callSN (n := 2) 32 rfl (c_heldBy A v (by omega) (by omega)) gX1_afterSimple_X4_heldBy_n60 rfl (by decide +kernel) (by decide +kernel) (by decide +kernel) (by decide +kernel) rfl ⟨(Nat.le_of_ble_eq_true rfl), (Nat.le_of_ble_eq_true rfl)⟩ rfl (Nat.le_of_ble_eq_true rfl) dX1_afterSimple_29 ⟨Nat.zero_le _, Nat.zero_le _⟩ ?_
  refine v_st (st' := [.int (oI (hb A v))]) rfl ?_
  refine v_istore (lv' := [(6, .int (oI (hb A v))), (5, .int (nI x)), (4, .int (nI v)), (0, .ref (ad 4)), (1, .int (nI t)), (2, .int (nI A)), (3, .ref (ad 1))]) 34 rfl dX1_afterSimple_32 (Nat.le_of_ble_eq_true rfl) rfl ?_
  refine v_aload_n 35 rfl dX1_afterSimple_34 rfl rfl ?_
  refine v_get (ci := 1) (C := RX1) (T := TX1) (N := 9) (v := .ref (ad 5)) 38 rfl 4 0 dX1_afterSimple_35 rfl (Nat.le_of_ble_eq_true rfl) i1 (by decide +kernel) rfl rfl ?_
  refine v_iload_n 39 rfl dX1_afterSimple_38 rfl rfl ?_
  refine v_iald (j := t) (v := nI 1) 40 rfl 5 0 dX1_afterSimple_39 rfl rfl (by omega) (by decide) hk ?_
  refine v_if_neN (a := 1) 66 43 rfl dX1_afterSimple_40 (by decide) (by omega) (fun c40 => ?_) (fun q => False.elim (by omega))
  refine v_iload 68 rfl dX1_afterSimple_66 rfl ?_
  refine v_iconst (v := -1) 69 rfl dX1_afterSimple_68 (by decide) ?_
  refine v_icmp_ne 75 72 rfl dX1_afterSimple_69 (by decide) (fun c69 => ?_) (fun c69 => ?_)
  · have z : hb A v ≠ 0 := fun h => c69 ((oI_m1 (by have := hb_lt A v; omega)).mpr h)
    have hle := hb_lt A v
    refine v_aload_n 76 rfl dX1_afterSimple_75 rfl rfl ?_
    refine v_get (ci := 1) (C := RX1) (T := TX1) (N := 9) (v := .ref (ad 5)) 79 rfl 4 0 dX1_afterSimple_76 rfl (Nat.le_of_ble_eq_true rfl) i1 (by decide +kernel) rfl rfl ?_
    refine v_iload_n 80 rfl dX1_afterSimple_79 rfl rfl ?_
    refine v_iald (j := t) (v := nI 1) 81 rfl 5 0 dX1_afterSimple_80 rfl rfl (by omega) (by decide) hk ?_
    refine v_iconst (v := nI 1) 82 rfl dX1_afterSimple_81 (by decide) ?_
    refine v_icmp_neN (a := 1) (b := 1) 123 85 rfl dX1_afterSimple_82 (by decide) (by omega) (by omega) (fun q => False.elim (by omega)) (fun c82 => ?_)
    refine v_aload_n 86 rfl dX1_afterSimple_85 rfl rfl ?_
    refine v_iload 88 rfl dX1_afterSimple_86 rfl ?_
    refine v_top (v' := nI (hb A v - 1)) (oI_p (by omega)) ?_
    refine v_iload 90 rfl dX1_afterSimple_88 rfl ?_
    refine v_callF (n := 2) (q0 := 1) (ci := 2) 93 rfl (c_targetOf (hb A v - 1) x (oI (tn ((hb A v - 1) * 4 + x))) (by omega) (by omega) ht) gX1_afterSimple_X2_targetOf rfl (by decide +kernel) rfl ⟨(Nat.le_of_ble_eq_true rfl), (Nat.le_of_ble_eq_true rfl)⟩ rfl (Nat.le_of_ble_eq_true rfl) rfl rfl rfl dX1_afterSimple_90 ⟨Nat.zero_le _, Nat.zero_le _⟩ rfl ?_
    refine v_st (st' := [.int (oI (tn ((hb A v - 1) * 4 + x)))]) rfl ?_
    refine v_istore (lv' := [(7, .int (oI (tn ((hb A v - 1) * 4 + x)))), (6, .int (oI (hb A v))), (5, .int (nI x)), (4, .int (nI v)), (0, .ref (ad 4)), (1, .int (nI t)), (2, .int (nI A)), (3, .ref (ad 1))]) 95 rfl dX1_afterSimple_93 (Nat.le_of_ble_eq_true rfl) rfl ?_
    refine v_iload 97 rfl dX1_afterSimple_95 rfl ?_
    refine v_iconst (v := -1) 98 rfl dX1_afterSimple_97 (by decide) ?_
    refine v_icmp_ne 106 101 rfl dX1_afterSimple_98 (by decide) (fun c98 => ?_) (fun c98 => ?_)
    · have z2 : tn ((hb A v - 1) * 4 + x) ≠ 0 := fun h => c98 ((oI_m1 (by omega)).mpr h)
      refine v_iload_n 107 rfl dX1_afterSimple_106 rfl rfl ?_
      refine v_iload 109 rfl dX1_afterSimple_107 rfl ?_
      refine v_iload 111 rfl dX1_afterSimple_109 rfl ?_
      refine v_top (v' := nI (hb A v - 1)) (oI_p (by omega)) ?_
      refine v_callSN (n := 1) 114 rfl (c_protocolOf (hb A v - 1) (by omega)) gX1_afterSimple_X4_protocolOf_n76 rfl (by decide +kernel) (by decide +kernel) (by decide +kernel) (by decide +kernel) rfl ⟨(Nat.le_of_ble_eq_true rfl), (Nat.le_of_ble_eq_true rfl)⟩ rfl (Nat.le_of_ble_eq_true rfl) dX1_afterSimple_111 ⟨Nat.zero_le _, Nat.zero_le _⟩ ?_
      refine v_st (st' := [.int (nI ((hb A v - 1) / 8)), .int (nI v), .int (nI A)]) rfl ?_
      refine v_iload 116 rfl dX1_afterSimple_114 rfl ?_
      refine v_top (v' := nI (tn ((hb A v - 1) * 4 + x) - 1)) (oI_p (by omega)) ?_
      refine v_callSN (n := 2) 119 rfl (c_objectOf ((hb A v - 1) / 8) (tn ((hb A v - 1) * 4 + x) - 1)) gX1_afterSimple_X4_objectOf_n64 rfl (by decide +kernel) (by decide +kernel) (by decide +kernel) (by decide +kernel) rfl ⟨(Nat.le_of_ble_eq_true rfl), (Nat.le_of_ble_eq_true rfl)⟩ rfl (Nat.le_of_ble_eq_true rfl) dX1_afterSimple_116 ⟨Nat.zero_le _, Nat.zero_le _⟩ ?_
      refine v_st (st' := [.int (nI (8 * ((hb A v - 1) / 8) + (tn ((hb A v - 1) * 4 + x) - 1))), .int (nI v), .int (nI A)]) rfl ?_
      refine v_top (v' := oI (8 * ((hb A v - 1) / 8) + tn ((hb A v - 1) * 4 + x))) (by rw [oI_p (by omega)]; congr 1; omega) ?_
      refine v_callSN (n := 3) 122 rfl (c_withHeld A v (8 * ((hb A v - 1) / 8) + tn ((hb A v - 1) * 4 + x)) (by first | omega | exact wh_lt hA hv (by omega)) (by omega) (by omega)) gX1_afterSimple_X4_withHeld_n67 rfl (by decide +kernel) (by decide +kernel) (by decide +kernel) (by decide +kernel) rfl ⟨(Nat.le_of_ble_eq_true rfl), (Nat.le_of_ble_eq_true rfl)⟩ rfl (Nat.le_of_ble_eq_true rfl) dX1_afterSimple_119 ⟨Nat.zero_le _, Nat.zero_le _⟩ ?_
      refine v_st (st' := [.int (nI (wh A v (8 * ((hb A v - 1) / 8) + tn ((hb A v - 1) * 4 + x))))]) rfl ?_
      exact v_iret dX1_afterSimple_122 rfl (by simp [sim, fI, *] <;> rfl) rfl
    · have z2 : tn ((hb A v - 1) * 4 + x) = 0 := (oI_m1 (by omega)).mp c98
      refine v_bipush (v := -3) 103 rfl dX1_afterSimple_101 (by decide) ?_
      refine v_goto 122 dX1_afterSimple_103 (by decide) ?_
      exact v_iret dX1_afterSimple_122 rfl (by simp [sim, fI, *] <;> rfl) rfl
  · have z : hb A v = 0 := (oI_m1 (by have := hb_lt A v; omega)).mp c69
    refine v_bipush (v := -2) 74 rfl dX1_afterSimple_72 (by decide) ?_
    exact v_iret dX1_afterSimple_74 rfl (by simp [sim, fI, *] <;> rfl) rfl

set_option maxRecDepth 100000 in
set_option maxHeartbeats 4000000 in
theorem c_afterSimple2 {D : va_G} {cI cZ cJ : ClassId} {l : Launch} {ad : Nat → Nat} {tg : Nat → Int32} {fn : Nat → Int32} {ki : Nat → Int32} {nu : Nat → Int32} {fi : Nat → Int32} {se : Nat → Int32} {ju : Nat → Int32} {op : Nat → Int32} {en : Nat} {sm : Nat} {ob : Nat} {be : Nat → Int32} {af : Nat → Int32} {pl : Int32} {rf : Int32} {rp : Int32} {rs : Nat} {ra : Nat} {rb : Int32} {rl : Nat} (tn : Nat → Nat) (fb : Nat → Bool) (t v x A : Nat) (hte : t < en) (hen : en ≤ 120) (hv : v < 4) (hA : A < 2 ^ 20) (hf : fi t = nI v) (hs : se t = nI x) (hk : ki t = nI 2) (hx : x < 4) : KM D (tyL cI cZ cJ) l yX1_afterSimple wsX1_afterSimple 2 43 [.ref (ad 4), .int (nI t), .int (nI A), .ref (ad 1)] (wC ad cI cZ tg fn ki nu fi se ju op en sm ob be af pl rf rp rs ra rb rl) (some (.int (fI (sim tn fb 2 v x A).1 (sim tn fb 2 v x A).2))) (wC ad cI cZ tg fn ki nu fi se ju op en sm ob be af pl rf rp rs ra rb rl) := by
  refine KM.of (cc := cX1_afterSimple) (nL := 8) (ret := (some .int)) (by decide +kernel) rfl (Nat.le_of_ble_eq_true rfl) ?_
  have i1 : ∀ w ∈ u_ws RX1 TX1 9, w ∈ wsX1_afterSimple := by decide +kernel
  refine v_aload_n 1 rfl dX1_afterSimple_0 rfl rfl ?_
  refine v_iload_n 2 rfl dX1_afterSimple_1 rfl rfl ?_
  refine v_callF (n := 1) (q0 := 4) (ci := 1) 5 rfl (c_hasEntryT t (by omega) (by omega)) gX1_afterSimple_X1_hasEntry rfl (by decide +kernel) rfl ⟨(Nat.le_of_ble_eq_true rfl), (Nat.le_of_ble_eq_true rfl)⟩ rfl (Nat.le_of_ble_eq_true rfl) rfl rfl rfl dX1_afterSimple_2 ⟨Nat.zero_le _, Nat.zero_le _⟩ rfl ?_
  refine v_st (st' := [.int (bI true)]) rfl ?_
  refine v_if_neB (b := true) 10 8 rfl dX1_afterSimple_5 (by decide) (fun c5 => ?_) (fun q => False.elim (by cases q))
  refine v_aload_n 11 rfl dX1_afterSimple_10 rfl rfl ?_
  refine v_get (ci := 1) (C := RX1) (T := TX1) (N := 9) (v := .ref (ad 7)) 14 rfl 4 2 dX1_afterSimple_11 rfl (Nat.le_of_ble_eq_true rfl) i1 (by decide +kernel) rfl rfl ?_
  refine v_iload_n 15 rfl dX1_afterSimple_14 rfl rfl ?_
  refine v_iald (j := t) (v := nI v) 16 rfl 7 0 dX1_afterSimple_15 rfl rfl (by omega) (by decide) hf ?_
  refine v_istore (lv' := [(4, .int (nI v)), (0, .ref (ad 4)), (1, .int (nI t)), (2, .int (nI A)), (3, .ref (ad 1))]) 18 rfl dX1_afterSimple_16 (Nat.le_of_ble_eq_true rfl) rfl ?_
  refine v_aload_n 19 rfl dX1_afterSimple_18 rfl rfl ?_
  refine v_get (ci := 1) (C := RX1) (T := TX1) (N := 9) (v := .ref (ad 8)) 22 rfl 4 3 dX1_afterSimple_19 rfl (Nat.le_of_ble_eq_true rfl) i1 (by decide +kernel) rfl rfl ?_
  refine v_iload_n 23 rfl dX1_afterSimple_22 rfl rfl ?_
  refine v_iald (j := t) (v := nI x) 24 rfl 8 0 dX1_afterSimple_23 rfl rfl (by omega) (by decide) hs ?_
  refine v_istore (lv' := [(5, .int (nI x)), (4, .int (nI v)), (0, .ref (ad 4)), (1, .int (nI t)), (2, .int (nI A)), (3, .ref (ad 1))]) 26 rfl dX1_afterSimple_24 (Nat.le_of_ble_eq_true rfl) rfl ?_
  refine v_iload_n 27 rfl dX1_afterSimple_26 rfl rfl ?_
  refine v_iload 29 rfl dX1_afterSimple_27 rfl ?_
  refine v_callSN (n := 2) 32 rfl (c_heldBy A v (by omega) (by omega)) gX1_afterSimple_X4_heldBy_n60 rfl (by decide +kernel) (by decide +kernel) (by decide +kernel) (by decide +kernel) rfl ⟨(Nat.le_of_ble_eq_true rfl), (Nat.le_of_ble_eq_true rfl)⟩ rfl (Nat.le_of_ble_eq_true rfl) dX1_afterSimple_29 ⟨Nat.zero_le _, Nat.zero_le _⟩ ?_
  refine v_st (st' := [.int (oI (hb A v))]) rfl ?_
  refine v_istore (lv' := [(6, .int (oI (hb A v))), (5, .int (nI x)), (4, .int (nI v)), (0, .ref (ad 4)), (1, .int (nI t)), (2, .int (nI A)), (3, .ref (ad 1))]) 34 rfl dX1_afterSimple_32 (Nat.le_of_ble_eq_true rfl) rfl ?_
  refine v_aload_n 35 rfl dX1_afterSimple_34 rfl rfl ?_
  refine v_get (ci := 1) (C := RX1) (T := TX1) (N := 9) (v := .ref (ad 5)) 38 rfl 4 0 dX1_afterSimple_35 rfl (Nat.le_of_ble_eq_true rfl) i1 (by decide +kernel) rfl rfl ?_
  refine v_iload_n 39 rfl dX1_afterSimple_38 rfl rfl ?_
  refine v_iald (j := t) (v := nI 2) 40 rfl 5 0 dX1_afterSimple_39 rfl rfl (by omega) (by decide) hk ?_
  refine v_if_neN (a := 2) 66 43 rfl dX1_afterSimple_40 (by decide) (by omega) (fun c40 => ?_) (fun q => False.elim (by omega))
  refine v_iload 68 rfl dX1_afterSimple_66 rfl ?_
  refine v_iconst (v := -1) 69 rfl dX1_afterSimple_68 (by decide) ?_
  refine v_icmp_ne 75 72 rfl dX1_afterSimple_69 (by decide) (fun c69 => ?_) (fun c69 => ?_)
  · have z : hb A v ≠ 0 := fun h => c69 ((oI_m1 (by have := hb_lt A v; omega)).mpr h)
    have hle := hb_lt A v
    refine v_aload_n 76 rfl dX1_afterSimple_75 rfl rfl ?_
    refine v_get (ci := 1) (C := RX1) (T := TX1) (N := 9) (v := .ref (ad 5)) 79 rfl 4 0 dX1_afterSimple_76 rfl (Nat.le_of_ble_eq_true rfl) i1 (by decide +kernel) rfl rfl ?_
    refine v_iload_n 80 rfl dX1_afterSimple_79 rfl rfl ?_
    refine v_iald (j := t) (v := nI 2) 81 rfl 5 0 dX1_afterSimple_80 rfl rfl (by omega) (by decide) hk ?_
    refine v_iconst (v := nI 1) 82 rfl dX1_afterSimple_81 (by decide) ?_
    refine v_icmp_neN (a := 2) (b := 1) 123 85 rfl dX1_afterSimple_82 (by decide) (by omega) (by omega) (fun c82 => ?_) (fun q => False.elim (by omega))
    refine v_aload_n 124 rfl dX1_afterSimple_123 rfl rfl ?_
    refine v_get (ci := 1) (C := RX1) (T := TX1) (N := 9) (v := .ref (ad 5)) 127 rfl 4 0 dX1_afterSimple_124 rfl (Nat.le_of_ble_eq_true rfl) i1 (by decide +kernel) rfl rfl ?_
    refine v_iload_n 128 rfl dX1_afterSimple_127 rfl rfl ?_
    refine v_iald (j := t) (v := nI 2) 129 rfl 5 0 dX1_afterSimple_128 rfl rfl (by omega) (by decide) hk ?_
    refine v_iconst (v := nI 2) 130 rfl dX1_afterSimple_129 (by decide) ?_
    refine v_icmp_neN (a := 2) (b := 2) 162 133 rfl dX1_afterSimple_130 (by decide) (by omega) (by omega) (fun q => False.elim (by omega)) (fun c130 => ?_)
    refine v_iload_n 134 rfl dX1_afterSimple_133 rfl rfl ?_
    refine v_iload 136 rfl dX1_afterSimple_134 rfl ?_
    refine v_callSN (n := 2) 139 rfl (c_heldBy A x (by omega) (by omega)) gX1_afterSimple_X4_heldBy_n60 rfl (by decide +kernel) (by decide +kernel) (by decide +kernel) (by decide +kernel) rfl ⟨(Nat.le_of_ble_eq_true rfl), (Nat.le_of_ble_eq_true rfl)⟩ rfl (Nat.le_of_ble_eq_true rfl) dX1_afterSimple_136 ⟨Nat.zero_le _, Nat.zero_le _⟩ ?_
    refine v_st (st' := [.int (oI (hb A x))]) rfl ?_
    refine v_iconst (v := -1) 140 rfl dX1_afterSimple_139 (by decide) ?_
    refine v_icmp_eq 147 143 rfl dX1_afterSimple_140 (by decide) (fun c140 => ?_) (fun c140 => ?_)
    · have z2 : hb A x = 0 := (oI_m1 (by have := hb_lt A x; omega)).mp c140
      refine v_iload_n 148 rfl dX1_afterSimple_147 rfl rfl ?_
      refine v_iload 150 rfl dX1_afterSimple_148 rfl ?_
      refine v_iconst (v := -1) 151 rfl dX1_afterSimple_150 (by decide) ?_
      refine v_callSN (n := 3) 154 rfl (c_withHeld A v 0 (by omega) (by omega) (by omega)) gX1_afterSimple_X4_withHeld_n67 rfl (by decide +kernel) (by decide +kernel) (by decide +kernel) (by decide +kernel) rfl ⟨(Nat.le_of_ble_eq_true rfl), (Nat.le_of_ble_eq_true rfl)⟩ rfl (Nat.le_of_ble_eq_true rfl) dX1_afterSimple_151 ⟨Nat.zero_le _, Nat.zero_le _⟩ ?_
      refine v_st (st' := [.int (nI (wh A v 0))]) rfl ?_
      refine v_iload 156 rfl dX1_afterSimple_154 rfl ?_
      refine v_iload 158 rfl dX1_afterSimple_156 rfl ?_
      refine v_callSN (n := 3) 161 rfl (c_withHeld (wh A v 0) x (hb A v) (wh_lt hA hv (by omega)) (by omega) (by omega)) gX1_afterSimple_X4_withHeld_n67 rfl (by decide +kernel) (by decide +kernel) (by decide +kernel) (by decide +kernel) rfl ⟨(Nat.le_of_ble_eq_true rfl), (Nat.le_of_ble_eq_true rfl)⟩ rfl (Nat.le_of_ble_eq_true rfl) dX1_afterSimple_158 ⟨Nat.zero_le _, Nat.zero_le _⟩ ?_
      refine v_st (st' := [.int (nI (wh (wh A v 0) x (hb A v)))]) rfl ?_
      exact v_iret dX1_afterSimple_161 rfl (by simp [sim, fI, *] <;> rfl) rfl
    · have z2 : hb A x ≠ 0 := fun h => c140 ((oI_m1 (by have := hb_lt A x; omega)).mpr h)
      refine v_iconst (v := -1) 144 rfl dX1_afterSimple_143 (by decide) ?_
      refine v_goto 161 dX1_afterSimple_144 (by decide) ?_
      exact v_iret dX1_afterSimple_161 rfl (by simp [sim, fI, *] <;> rfl) rfl
  · have z : hb A v = 0 := (oI_m1 (by have := hb_lt A v; omega)).mp c69
    refine v_bipush (v := -2) 74 rfl dX1_afterSimple_72 (by decide) ?_
    exact v_iret dX1_afterSimple_74 rfl (by simp [sim, fI, *] <;> rfl) rfl

set_option maxRecDepth 100000 in
set_option maxHeartbeats 4000000 in
theorem c_afterSimple3 {D : va_G} {cI cZ cJ : ClassId} {l : Launch} {ad : Nat → Nat} {tg : Nat → Int32} {fn : Nat → Int32} {ki : Nat → Int32} {nu : Nat → Int32} {fi : Nat → Int32} {se : Nat → Int32} {ju : Nat → Int32} {op : Nat → Int32} {en : Nat} {sm : Nat} {ob : Nat} {be : Nat → Int32} {af : Nat → Int32} {pl : Int32} {rf : Int32} {rp : Int32} {rs : Nat} {ra : Nat} {rb : Int32} {rl : Nat} (tn : Nat → Nat) (fb : Nat → Bool) (t v x A : Nat) (hte : t < en) (hen : en ≤ 120) (hv : v < 4) (hA : A < 2 ^ 20) (hf : fi t = nI v) (hs : se t = nI x) (hk : ki t = nI 3) (hob : hb A v ≤ 24) (hfn : fn (hb A v - 1) = bI (fb (hb A v - 1))) : KM D (tyL cI cZ cJ) l yX1_afterSimple wsX1_afterSimple 2 43 [.ref (ad 4), .int (nI t), .int (nI A), .ref (ad 1)] (wC ad cI cZ tg fn ki nu fi se ju op en sm ob be af pl rf rp rs ra rb rl) (some (.int (fI (sim tn fb 3 v x A).1 (sim tn fb 3 v x A).2))) (wC ad cI cZ tg fn ki nu fi se ju op en sm ob be af pl rf rp rs ra rb rl) := by
  refine KM.of (cc := cX1_afterSimple) (nL := 8) (ret := (some .int)) (by decide +kernel) rfl (Nat.le_of_ble_eq_true rfl) ?_
  have i1 : ∀ w ∈ u_ws RX1 TX1 9, w ∈ wsX1_afterSimple := by decide +kernel
  refine v_aload_n 1 rfl dX1_afterSimple_0 rfl rfl ?_
  refine v_iload_n 2 rfl dX1_afterSimple_1 rfl rfl ?_
  refine v_callF (n := 1) (q0 := 4) (ci := 1) 5 rfl (c_hasEntryT t (by omega) (by omega)) gX1_afterSimple_X1_hasEntry rfl (by decide +kernel) rfl ⟨(Nat.le_of_ble_eq_true rfl), (Nat.le_of_ble_eq_true rfl)⟩ rfl (Nat.le_of_ble_eq_true rfl) rfl rfl rfl dX1_afterSimple_2 ⟨Nat.zero_le _, Nat.zero_le _⟩ rfl ?_
  refine v_st (st' := [.int (bI true)]) rfl ?_
  refine v_if_neB (b := true) 10 8 rfl dX1_afterSimple_5 (by decide) (fun c5 => ?_) (fun q => False.elim (by cases q))
  refine v_aload_n 11 rfl dX1_afterSimple_10 rfl rfl ?_
  refine v_get (ci := 1) (C := RX1) (T := TX1) (N := 9) (v := .ref (ad 7)) 14 rfl 4 2 dX1_afterSimple_11 rfl (Nat.le_of_ble_eq_true rfl) i1 (by decide +kernel) rfl rfl ?_
  refine v_iload_n 15 rfl dX1_afterSimple_14 rfl rfl ?_
  refine v_iald (j := t) (v := nI v) 16 rfl 7 0 dX1_afterSimple_15 rfl rfl (by omega) (by decide) hf ?_
  refine v_istore (lv' := [(4, .int (nI v)), (0, .ref (ad 4)), (1, .int (nI t)), (2, .int (nI A)), (3, .ref (ad 1))]) 18 rfl dX1_afterSimple_16 (Nat.le_of_ble_eq_true rfl) rfl ?_
  refine v_aload_n 19 rfl dX1_afterSimple_18 rfl rfl ?_
  refine v_get (ci := 1) (C := RX1) (T := TX1) (N := 9) (v := .ref (ad 8)) 22 rfl 4 3 dX1_afterSimple_19 rfl (Nat.le_of_ble_eq_true rfl) i1 (by decide +kernel) rfl rfl ?_
  refine v_iload_n 23 rfl dX1_afterSimple_22 rfl rfl ?_
  refine v_iald (j := t) (v := nI x) 24 rfl 8 0 dX1_afterSimple_23 rfl rfl (by omega) (by decide) hs ?_
  refine v_istore (lv' := [(5, .int (nI x)), (4, .int (nI v)), (0, .ref (ad 4)), (1, .int (nI t)), (2, .int (nI A)), (3, .ref (ad 1))]) 26 rfl dX1_afterSimple_24 (Nat.le_of_ble_eq_true rfl) rfl ?_
  refine v_iload_n 27 rfl dX1_afterSimple_26 rfl rfl ?_
  refine v_iload 29 rfl dX1_afterSimple_27 rfl ?_
  refine v_callSN (n := 2) 32 rfl (c_heldBy A v (by omega) (by omega)) gX1_afterSimple_X4_heldBy_n60 rfl (by decide +kernel) (by decide +kernel) (by decide +kernel) (by decide +kernel) rfl ⟨(Nat.le_of_ble_eq_true rfl), (Nat.le_of_ble_eq_true rfl)⟩ rfl (Nat.le_of_ble_eq_true rfl) dX1_afterSimple_29 ⟨Nat.zero_le _, Nat.zero_le _⟩ ?_
  refine v_st (st' := [.int (oI (hb A v))]) rfl ?_
  refine v_istore (lv' := [(6, .int (oI (hb A v))), (5, .int (nI x)), (4, .int (nI v)), (0, .ref (ad 4)), (1, .int (nI t)), (2, .int (nI A)), (3, .ref (ad 1))]) 34 rfl dX1_afterSimple_32 (Nat.le_of_ble_eq_true rfl) rfl ?_
  refine v_aload_n 35 rfl dX1_afterSimple_34 rfl rfl ?_
  refine v_get (ci := 1) (C := RX1) (T := TX1) (N := 9) (v := .ref (ad 5)) 38 rfl 4 0 dX1_afterSimple_35 rfl (Nat.le_of_ble_eq_true rfl) i1 (by decide +kernel) rfl rfl ?_
  refine v_iload_n 39 rfl dX1_afterSimple_38 rfl rfl ?_
  refine v_iald (j := t) (v := nI 3) 40 rfl 5 0 dX1_afterSimple_39 rfl rfl (by omega) (by decide) hk ?_
  refine v_if_neN (a := 3) 66 43 rfl dX1_afterSimple_40 (by decide) (by omega) (fun c40 => ?_) (fun q => False.elim (by omega))
  refine v_iload 68 rfl dX1_afterSimple_66 rfl ?_
  refine v_iconst (v := -1) 69 rfl dX1_afterSimple_68 (by decide) ?_
  refine v_icmp_ne 75 72 rfl dX1_afterSimple_69 (by decide) (fun c69 => ?_) (fun c69 => ?_)
  · have z : hb A v ≠ 0 := fun h => c69 ((oI_m1 (by have := hb_lt A v; omega)).mpr h)
    have hle := hb_lt A v
    refine v_aload_n 76 rfl dX1_afterSimple_75 rfl rfl ?_
    refine v_get (ci := 1) (C := RX1) (T := TX1) (N := 9) (v := .ref (ad 5)) 79 rfl 4 0 dX1_afterSimple_76 rfl (Nat.le_of_ble_eq_true rfl) i1 (by decide +kernel) rfl rfl ?_
    refine v_iload_n 80 rfl dX1_afterSimple_79 rfl rfl ?_
    refine v_iald (j := t) (v := nI 3) 81 rfl 5 0 dX1_afterSimple_80 rfl rfl (by omega) (by decide) hk ?_
    refine v_iconst (v := nI 1) 82 rfl dX1_afterSimple_81 (by decide) ?_
    refine v_icmp_neN (a := 3) (b := 1) 123 85 rfl dX1_afterSimple_82 (by decide) (by omega) (by omega) (fun c82 => ?_) (fun q => False.elim (by omega))
    refine v_aload_n 124 rfl dX1_afterSimple_123 rfl rfl ?_
    refine v_get (ci := 1) (C := RX1) (T := TX1) (N := 9) (v := .ref (ad 5)) 127 rfl 4 0 dX1_afterSimple_124 rfl (Nat.le_of_ble_eq_true rfl) i1 (by decide +kernel) rfl rfl ?_
    refine v_iload_n 128 rfl dX1_afterSimple_127 rfl rfl ?_
    refine v_iald (j := t) (v := nI 3) 129 rfl 5 0 dX1_afterSimple_128 rfl rfl (by omega) (by decide) hk ?_
    refine v_iconst (v := nI 2) 130 rfl dX1_afterSimple_129 (by decide) ?_
    refine v_icmp_neN (a := 3) (b := 2) 162 133 rfl dX1_afterSimple_130 (by decide) (by omega) (by omega) (fun c130 => ?_) (fun q => False.elim (by omega))
    refine v_aload_n 163 rfl dX1_afterSimple_162 rfl rfl ?_
    refine v_iload 165 rfl dX1_afterSimple_163 rfl ?_
    refine v_top (v' := nI (hb A v - 1)) (oI_p (by omega)) ?_
    refine v_callF (n := 1) (q0 := 1) (ci := 2) 168 rfl (c_mayBeLeft (hb A v - 1) (fb (hb A v - 1)) (by omega) hfn) gX1_afterSimple_X2_mayBeLeft rfl (by decide +kernel) rfl ⟨(Nat.le_of_ble_eq_true rfl), (Nat.le_of_ble_eq_true rfl)⟩ rfl (Nat.le_of_ble_eq_true rfl) rfl rfl rfl dX1_afterSimple_165 ⟨Nat.zero_le _, Nat.zero_le _⟩ rfl ?_
    refine v_st (st' := [.int (bI (fb (hb A v - 1)))]) rfl ?_
    refine v_if_eqB (b := fb (hb A v - 1)) 181 171 rfl dX1_afterSimple_168 (by decide) (fun c168 => ?_) (fun c168 => ?_)
    · refine v_bipush (v := -4) 183 rfl dX1_afterSimple_181 (by decide) ?_
      exact v_iret dX1_afterSimple_183 rfl (by simp [sim, fI, *] <;> rfl) rfl
    · refine v_iload_n 172 rfl dX1_afterSimple_171 rfl rfl ?_
      refine v_iload 174 rfl dX1_afterSimple_172 rfl ?_
      refine v_iconst (v := -1) 175 rfl dX1_afterSimple_174 (by decide) ?_
      refine v_callSN (n := 3) 178 rfl (c_withHeld A v 0 (by omega) (by omega) (by omega)) gX1_afterSimple_X4_withHeld_n67 rfl (by decide +kernel) (by decide +kernel) (by decide +kernel) (by decide +kernel) rfl ⟨(Nat.le_of_ble_eq_true rfl), (Nat.le_of_ble_eq_true rfl)⟩ rfl (Nat.le_of_ble_eq_true rfl) dX1_afterSimple_175 ⟨Nat.zero_le _, Nat.zero_le _⟩ ?_
      refine v_st (st' := [.int (nI (wh A v 0))]) rfl ?_
      refine v_goto 183 dX1_afterSimple_178 (by decide) ?_
      exact v_iret dX1_afterSimple_183 rfl (by simp [sim, fI, *] <;> rfl) rfl
  · have z : hb A v = 0 := (oI_m1 (by have := hb_lt A v; omega)).mp c69
    refine v_bipush (v := -2) 74 rfl dX1_afterSimple_72 (by decide) ?_
    exact v_iret dX1_afterSimple_74 rfl (by simp [sim, fI, *] <;> rfl) rfl

theorem c_afterSimple {D : va_G} {cI cZ cJ : ClassId} {l : Launch} {ad : Nat → Nat} {tg : Nat → Int32} {fn : Nat → Int32} {ki : Nat → Int32} {nu : Nat → Int32} {fi : Nat → Int32} {se : Nat → Int32} {ju : Nat → Int32} {op : Nat → Int32} {en : Nat} {sm : Nat} {ob : Nat} {be : Nat → Int32} {af : Nat → Int32} {pl : Int32} {rf : Int32} {rp : Int32} {rs : Nat} {ra : Nat} {rb : Int32} {rl : Nat} (tn : Nat → Nat) (fb : Nat → Bool) (t d v x A : Nat) (hte : t < en) (hen : en ≤ 120) (hk : ki t = nI d) (hd : d < 4) (hv : v < 4) (hx : x < 4) (hx3 : d = 0 → x < 3) (hA : A < 2 ^ 20) (hob : ∀ v, v < 4 → hb A v ≤ 24) (hf : fi t = nI v) (hs : se t = nI x) (htg : ∀ i, i < 96 → tg i = oI (tn i) ∧ tn i ≤ 5) (hfn : ∀ o, o < 24 → fn o = bI (fb o)) : KM D (tyL cI cZ cJ) l yX1_afterSimple wsX1_afterSimple 2 43 [.ref (ad 4), .int (nI t), .int (nI A), .ref (ad 1)] (wC ad cI cZ tg fn ki nu fi se ju op en sm ob be af pl rf rp rs ra rb rl) (some (.int (fI (sim tn fb d v x A).1 (sim tn fb d v x A).2))) (wC ad cI cZ tg fn ki nu fi se ju op en sm ob be af pl rf rp rs ra rb rl) := by
  by_cases hz : hb A v = 0
  · rcases (show d = 0 ∨ d = 1 ∨ d = 2 ∨ d = 3 by omega) with rfl | rfl | rfl | rfl
    · exact c_afterSimple0 tn fb t v x A hte hen hv hA hf hs hk (hx3 rfl)
    · exact c_afterSimple1 tn fb t v x A hte hen hv hA hf hs hk hx (hob v hv) (htg _ (by omega)).1 (htg _ (by omega)).2
    · exact c_afterSimple2 tn fb t v x A hte hen hv hA hf hs hk hx
    · exact c_afterSimple3 tn fb t v x A hte hen hv hA hf hs hk (hob v hv) (hfn _ (by omega))
  · have h1 := hob v hv
    rcases (show d = 0 ∨ d = 1 ∨ d = 2 ∨ d = 3 by omega) with rfl | rfl | rfl | rfl
    · exact c_afterSimple0 tn fb t v x A hte hen hv hA hf hs hk (hx3 rfl)
    · exact c_afterSimple1 tn fb t v x A hte hen hv hA hf hs hk hx (hob v hv) (htg _ (by omega)).1 (htg _ (by omega)).2
    · exact c_afterSimple2 tn fb t v x A hte hen hv hA hf hs hk hx
    · exact c_afterSimple3 tn fb t v x A hte hen hv hA hf hs hk (hob v hv) (hfn _ (by omega))

set_option maxRecDepth 100000 in
set_option maxHeartbeats 4000000 in
theorem c_heldBefore {D : va_G} {cI cZ cJ : ClassId} {l : Launch} {ad : Nat → Nat} {tg : Nat → Int32} {fn : Nat → Int32} {ki : Nat → Int32} {nu : Nat → Int32} {fi : Nat → Int32} {se : Nat → Int32} {ju : Nat → Int32} {op : Nat → Int32} {en : Nat} {sm : Nat} {ob : Nat} {be : Nat → Int32} {af : Nat → Int32} {pl : Int32} {rf : Int32} {rp : Int32} {rs : Nat} {ra : Nat} {rb : Int32} {rl : Nat} (n : Nat) (b : Int32) (hn : n < 40) (hb : be n = b) : KM D (tyL cI cZ cJ) l yX0_heldBefore wsX0_heldBefore 1 21 [.ref (ad 11), .int (nI n)] (wC ad cI cZ tg fn ki nu fi se ju op en sm ob be af pl rf rp rs ra rb rl) (some (.int b)) (wC ad cI cZ tg fn ki nu fi se ju op en sm ob be af pl rf rp rs ra rb rl) := by
  refine KM.of (cc := cX0_heldBefore) (nL := 2) (ret := (some .int)) (by decide +kernel) rfl (Nat.le_of_ble_eq_true rfl) ?_
  have i0 : ∀ w ∈ u_ws RX0 TX0 5, w ∈ wsX0_heldBefore := by decide +kernel
  refine v_iload_n 1 rfl dX0_heldBefore_0 rfl rfl ?_
  refine v_bipush (v := nI 40) 3 rfl dX0_heldBefore_1 (by decide) ?_
  refine v_callSN (n := 2) 6 rfl (c_isBelowT n 40 (by omega) (by omega)) gX0_heldBefore_X4_isBelow_n36 rfl (by decide +kernel) (by decide +kernel) (by decide +kernel) (by decide +kernel) rfl ⟨(Nat.le_of_ble_eq_true rfl), (Nat.le_of_ble_eq_true rfl)⟩ rfl (Nat.le_of_ble_eq_true rfl) dX0_heldBefore_3 ⟨Nat.zero_le _, Nat.zero_le _⟩ ?_
  refine v_st (st' := [.int (bI true)]) rfl ?_
  refine v_if_eqB (b := true) 18 9 rfl dX0_heldBefore_6 (by decide) (fun q => False.elim (by cases q)) (fun c6 => ?_)
  refine v_aload_n 10 rfl dX0_heldBefore_9 rfl rfl ?_
  refine v_get (ci := 0) (C := RX0) (T := TX0) (N := 5) (v := .ref (ad 12)) 13 rfl 11 2 dX0_heldBefore_10 rfl (Nat.le_of_ble_eq_true rfl) i0 (by decide +kernel) rfl rfl ?_
  refine v_iload_n 14 rfl dX0_heldBefore_13 rfl rfl ?_
  refine v_iald (j := n) (v := b) 15 rfl 12 0 dX0_heldBefore_14 rfl rfl (by omega) (by decide) hb ?_
  refine v_goto 19 dX0_heldBefore_15 (by decide) ?_
  exact v_iret dX0_heldBefore_19 rfl rfl rfl

set_option maxRecDepth 100000 in
set_option maxHeartbeats 4000000 in
theorem c_heldBeforeNo {D : va_G} {cI cZ cJ : ClassId} {l : Launch} {ad : Nat → Nat} {tg : Nat → Int32} {fn : Nat → Int32} {ki : Nat → Int32} {nu : Nat → Int32} {fi : Nat → Int32} {se : Nat → Int32} {ju : Nat → Int32} {op : Nat → Int32} {en : Nat} {sm : Nat} {ob : Nat} {be : Nat → Int32} {af : Nat → Int32} {pl : Int32} {rf : Int32} {rp : Int32} {rs : Nat} {ra : Nat} {rb : Int32} {rl : Nat} (a : Int32) (h : bel a (nI 40) = false) : KM D (tyL cI cZ cJ) l yX0_heldBefore wsX0_heldBefore 1 21 [.ref (ad 11), .int a] (wC ad cI cZ tg fn ki nu fi se ju op en sm ob be af pl rf rp rs ra rb rl) (some (.int (-1))) (wC ad cI cZ tg fn ki nu fi se ju op en sm ob be af pl rf rp rs ra rb rl) := by
  refine KM.of (cc := cX0_heldBefore) (nL := 2) (ret := (some .int)) (by decide +kernel) rfl (Nat.le_of_ble_eq_true rfl) ?_
  refine v_iload_n 1 rfl dX0_heldBefore_0 rfl rfl ?_
  refine v_bipush (v := nI 40) 3 rfl dX0_heldBefore_1 (by decide) ?_
  refine v_callSN (n := 2) 6 rfl (c_isBelow a (nI 40)) gX0_heldBefore_X4_isBelow_n36 rfl (by decide +kernel) (by decide +kernel) (by decide +kernel) (by decide +kernel) rfl ⟨(Nat.le_of_ble_eq_true rfl), (Nat.le_of_ble_eq_true rfl)⟩ rfl (Nat.le_of_ble_eq_true rfl) dX0_heldBefore_3 ⟨Nat.zero_le _, Nat.zero_le _⟩ ?_
  refine v_st (st' := [.int (bI (bel a (nI 40)))]) rfl ?_
  refine v_if_eqB (b := bel a (nI 40)) 18 9 rfl dX0_heldBefore_6 (by decide) (fun c6 => ?_) (fun q => False.elim (by rw [h] at q; cases q))
  refine v_iconst (v := -1) 19 rfl dX0_heldBefore_18 (by decide) ?_
  exact v_iret dX0_heldBefore_19 rfl rfl rfl

/-- an entry (its kind d, its number n) of a checking: the fault, what is held behind it, the rows before and afterThen -/
def cst (tn : Nat → Nat) (fb : Nat → Bool) (d n v x A : Nat) (be af : Nat → Int32) : Nat × Nat × (Nat → Int32) × (Nat → Int32) :=
  if d = 5 then (0, tN (be n), be, upd af n (nI A))
  else if d = 6 then (if A = tN (af n) then 0 else 5, A, be, af)
  else if d = 8 then (if A = tN (be n) then 0 else 6, A, be, af)
  else if d = 4 ∨ d = 7 then (0, A, upd be n (nI A), af)
  else ((sim tn fb d v x A).1, (sim tn fb d v x A).2, upd be n (nI A), af)

set_option maxRecDepth 100000 in
set_option maxHeartbeats 4000000 in
theorem c_aeElse {D : va_G} {cI cZ cJ : ClassId} {l : Launch} {ad : Nat → Nat} {tg : Nat → Int32} {fn : Nat → Int32} {ki : Nat → Int32} {nu : Nat → Int32} {fi : Nat → Int32} {se : Nat → Int32} {ju : Nat → Int32} {op : Nat → Int32} {en : Nat} {sm : Nat} {ob : Nat} {be : Nat → Int32} {af : Nat → Int32} {pl : Int32} {rf : Int32} {rp : Int32} {rs : Nat} {ra : Nat} {rb : Int32} {rl : Nat} (t n A : Nat) (hte : t < en) (hen : en ≤ 120) (hnu : nu t = nI n) (hn : n < 40) (hA : A < 2 ^ 20) (B : Nat) (hk : ki t = nI 5) (hB : be n = nI B) : KM D (tyL cI cZ cJ) l yX0_afterEntry wsX0_afterEntry 3 70 [.ref (ad 11), .int (nI t), .int (nI A)] (wC ad cI cZ tg fn ki nu fi se ju op en sm ob be af pl rf rp rs ra rb rl) (some (.int (nI B))) (wC ad cI cZ tg fn ki nu fi se ju op en sm ob be (upd af n (nI A)) pl rf rp rs ra rb rl) := by
  refine KM.of (cc := cX0_afterEntry) (nL := 4) (ret := (some .int)) (by decide +kernel) rfl (Nat.le_of_ble_eq_true rfl) ?_
  have i0 : ∀ w ∈ u_ws RX0 TX0 5, w ∈ wsX0_afterEntry := by decide +kernel
  have i1 : ∀ w ∈ u_ws RX1 TX1 9, w ∈ wsX0_afterEntry := by decide +kernel
  refine v_aload_n 1 rfl dX0_afterEntry_0 rfl rfl ?_
  refine v_get (ci := 0) (C := RX0) (T := TX0) (N := 5) (v := .ref (ad 4)) 4 rfl 11 0 dX0_afterEntry_1 rfl (Nat.le_of_ble_eq_true rfl) i0 (by decide +kernel) rfl rfl ?_
  refine v_iload_n 5 rfl dX0_afterEntry_4 rfl rfl ?_
  refine v_callF (n := 1) (q0 := 4) (ci := 1) 8 rfl (c_hasEntryT t (by omega) (by omega)) gX0_afterEntry_X1_hasEntry rfl (by decide +kernel) rfl ⟨(Nat.le_of_ble_eq_true rfl), (Nat.le_of_ble_eq_true rfl)⟩ rfl (Nat.le_of_ble_eq_true rfl) rfl rfl rfl dX0_afterEntry_5 ⟨Nat.zero_le _, Nat.zero_le _⟩ rfl ?_
  refine v_st (st' := [.int (bI true)]) rfl ?_
  refine v_if_eqB (b := true) 23 11 rfl dX0_afterEntry_8 (by decide) (fun q => False.elim (by cases q)) (fun c8 => ?_)
  refine v_aload_n 12 rfl dX0_afterEntry_11 rfl rfl ?_
  refine v_get (ci := 0) (C := RX0) (T := TX0) (N := 5) (v := .ref (ad 4)) 15 rfl 11 0 dX0_afterEntry_12 rfl (Nat.le_of_ble_eq_true rfl) i0 (by decide +kernel) rfl rfl ?_
  refine v_getN (ci := 1) (C := RX1) (T := TX1) (N := 9) (v := .ref (ad 6)) 18 rfl 4 1 dX0_afterEntry_15 rfl (Nat.le_of_ble_eq_true rfl) i1 (by decide +kernel) rfl rfl ?_
  refine v_iload_n 19 rfl dX0_afterEntry_18 rfl rfl ?_
  refine v_iald (j := t) (v := nI n) 20 rfl 6 0 dX0_afterEntry_19 rfl rfl (by omega) (by decide) hnu ?_
  refine v_goto 24 dX0_afterEntry_20 (by decide) ?_
  refine v_istore_n (lv' := [(3, .int (nI n)), (0, .ref (ad 11)), (1, .int (nI t)), (2, .int (nI A))]) 25 rfl dX0_afterEntry_24 rfl (Nat.le_of_ble_eq_true rfl) rfl ?_
  refine v_iload_n 26 rfl dX0_afterEntry_25 rfl rfl ?_
  refine v_bipush (v := nI 40) 28 rfl dX0_afterEntry_26 (by decide) ?_
  refine v_callSN (n := 2) 31 rfl (c_isBelowT n 40 (by omega) (by omega)) gX0_afterEntry_X4_isBelow_n36 rfl (by decide +kernel) (by decide +kernel) (by decide +kernel) (by decide +kernel) rfl ⟨(Nat.le_of_ble_eq_true rfl), (Nat.le_of_ble_eq_true rfl)⟩ rfl (Nat.le_of_ble_eq_true rfl) dX0_afterEntry_28 ⟨Nat.zero_le _, Nat.zero_le _⟩ ?_
  refine v_st (st' := [.int (bI true)]) rfl ?_
  refine v_if_neB (b := true) 36 34 rfl dX0_afterEntry_31 (by decide) (fun c31 => ?_) (fun q => False.elim (by cases q))
  refine v_aload_n 37 rfl dX0_afterEntry_36 rfl rfl ?_
  refine v_get (ci := 0) (C := RX0) (T := TX0) (N := 5) (v := .ref (ad 4)) 40 rfl 11 0 dX0_afterEntry_37 rfl (Nat.le_of_ble_eq_true rfl) i0 (by decide +kernel) rfl rfl ?_
  refine v_getN (ci := 1) (C := RX1) (T := TX1) (N := 9) (v := .ref (ad 5)) 43 rfl 4 0 dX0_afterEntry_40 rfl (Nat.le_of_ble_eq_true rfl) i1 (by decide +kernel) rfl rfl ?_
  refine v_iload_n 44 rfl dX0_afterEntry_43 rfl rfl ?_
  refine v_iald (j := t) (v := nI 5) 45 rfl 5 0 dX0_afterEntry_44 rfl rfl (by omega) (by decide) hk ?_
  refine v_tabIn (a := 5) 80 dX0_afterEntry_45 (by omega) (by omega) (by omega) rfl (by decide) ?_
  refine v_aload_n 81 rfl dX0_afterEntry_80 rfl rfl ?_
  refine v_get (ci := 0) (C := RX0) (T := TX0) (N := 5) (v := .ref (ad 13)) 84 rfl 11 3 dX0_afterEntry_81 rfl (Nat.le_of_ble_eq_true rfl) i0 (by decide +kernel) rfl rfl ?_
  refine v_iload_n 85 rfl dX0_afterEntry_84 rfl rfl ?_
  refine v_iload_n 86 rfl dX0_afterEntry_85 rfl rfl ?_
  refine v_iast (j := n) (w' := wC ad cI cZ tg fn ki nu fi se ju op en sm ob be (upd af n (nI A)) pl rf rp rs ra rb rl) 87 rfl 13 0 dX0_afterEntry_86 rfl rfl (by omega) (by decide) rfl ?_
  refine v_aload_n 88 rfl dX0_afterEntry_87 rfl rfl ?_
  refine v_get (ci := 0) (C := RX0) (T := TX0) (N := 5) (v := .ref (ad 12)) 91 rfl 11 2 dX0_afterEntry_88 rfl (Nat.le_of_ble_eq_true rfl) i0 (by decide +kernel) rfl rfl ?_
  refine v_iload_n 92 rfl dX0_afterEntry_91 rfl rfl ?_
  refine v_iald (j := n) (v := nI B) 93 rfl 12 0 dX0_afterEntry_92 rfl rfl (by omega) (by decide) hB ?_
  exact v_iret dX0_afterEntry_93 rfl rfl rfl

set_option maxRecDepth 100000 in
set_option maxHeartbeats 4000000 in
theorem c_aeEndIf {D : va_G} {cI cZ cJ : ClassId} {l : Launch} {ad : Nat → Nat} {tg : Nat → Int32} {fn : Nat → Int32} {ki : Nat → Int32} {nu : Nat → Int32} {fi : Nat → Int32} {se : Nat → Int32} {ju : Nat → Int32} {op : Nat → Int32} {en : Nat} {sm : Nat} {ob : Nat} {be : Nat → Int32} {af : Nat → Int32} {pl : Int32} {rf : Int32} {rp : Int32} {rs : Nat} {ra : Nat} {rb : Int32} {rl : Nat} (t n A : Nat) (hte : t < en) (hen : en ≤ 120) (hnu : nu t = nI n) (hn : n < 40) (hA : A < 2 ^ 20) (B : Nat) (hk : ki t = nI 6) (hB : af n = nI B) (hB2 : B < 2 ^ 20) : KM D (tyL cI cZ cJ) l yX0_afterEntry wsX0_afterEntry 3 70 [.ref (ad 11), .int (nI t), .int (nI A)] (wC ad cI cZ tg fn ki nu fi se ju op en sm ob be af pl rf rp rs ra rb rl) (some (.int (fI (if A = B then 0 else 5) A))) (wC ad cI cZ tg fn ki nu fi se ju op en sm ob be af pl rf rp rs ra rb rl) := by
  refine KM.of (cc := cX0_afterEntry) (nL := 4) (ret := (some .int)) (by decide +kernel) rfl (Nat.le_of_ble_eq_true rfl) ?_
  have i0 : ∀ w ∈ u_ws RX0 TX0 5, w ∈ wsX0_afterEntry := by decide +kernel
  have i1 : ∀ w ∈ u_ws RX1 TX1 9, w ∈ wsX0_afterEntry := by decide +kernel
  refine v_aload_n 1 rfl dX0_afterEntry_0 rfl rfl ?_
  refine v_get (ci := 0) (C := RX0) (T := TX0) (N := 5) (v := .ref (ad 4)) 4 rfl 11 0 dX0_afterEntry_1 rfl (Nat.le_of_ble_eq_true rfl) i0 (by decide +kernel) rfl rfl ?_
  refine v_iload_n 5 rfl dX0_afterEntry_4 rfl rfl ?_
  refine v_callF (n := 1) (q0 := 4) (ci := 1) 8 rfl (c_hasEntryT t (by omega) (by omega)) gX0_afterEntry_X1_hasEntry rfl (by decide +kernel) rfl ⟨(Nat.le_of_ble_eq_true rfl), (Nat.le_of_ble_eq_true rfl)⟩ rfl (Nat.le_of_ble_eq_true rfl) rfl rfl rfl dX0_afterEntry_5 ⟨Nat.zero_le _, Nat.zero_le _⟩ rfl ?_
  refine v_st (st' := [.int (bI true)]) rfl ?_
  refine v_if_eqB (b := true) 23 11 rfl dX0_afterEntry_8 (by decide) (fun q => False.elim (by cases q)) (fun c8 => ?_)
  refine v_aload_n 12 rfl dX0_afterEntry_11 rfl rfl ?_
  refine v_get (ci := 0) (C := RX0) (T := TX0) (N := 5) (v := .ref (ad 4)) 15 rfl 11 0 dX0_afterEntry_12 rfl (Nat.le_of_ble_eq_true rfl) i0 (by decide +kernel) rfl rfl ?_
  refine v_getN (ci := 1) (C := RX1) (T := TX1) (N := 9) (v := .ref (ad 6)) 18 rfl 4 1 dX0_afterEntry_15 rfl (Nat.le_of_ble_eq_true rfl) i1 (by decide +kernel) rfl rfl ?_
  refine v_iload_n 19 rfl dX0_afterEntry_18 rfl rfl ?_
  refine v_iald (j := t) (v := nI n) 20 rfl 6 0 dX0_afterEntry_19 rfl rfl (by omega) (by decide) hnu ?_
  refine v_goto 24 dX0_afterEntry_20 (by decide) ?_
  refine v_istore_n (lv' := [(3, .int (nI n)), (0, .ref (ad 11)), (1, .int (nI t)), (2, .int (nI A))]) 25 rfl dX0_afterEntry_24 rfl (Nat.le_of_ble_eq_true rfl) rfl ?_
  refine v_iload_n 26 rfl dX0_afterEntry_25 rfl rfl ?_
  refine v_bipush (v := nI 40) 28 rfl dX0_afterEntry_26 (by decide) ?_
  refine v_callSN (n := 2) 31 rfl (c_isBelowT n 40 (by omega) (by omega)) gX0_afterEntry_X4_isBelow_n36 rfl (by decide +kernel) (by decide +kernel) (by decide +kernel) (by decide +kernel) rfl ⟨(Nat.le_of_ble_eq_true rfl), (Nat.le_of_ble_eq_true rfl)⟩ rfl (Nat.le_of_ble_eq_true rfl) dX0_afterEntry_28 ⟨Nat.zero_le _, Nat.zero_le _⟩ ?_
  refine v_st (st' := [.int (bI true)]) rfl ?_
  refine v_if_neB (b := true) 36 34 rfl dX0_afterEntry_31 (by decide) (fun c31 => ?_) (fun q => False.elim (by cases q))
  refine v_aload_n 37 rfl dX0_afterEntry_36 rfl rfl ?_
  refine v_get (ci := 0) (C := RX0) (T := TX0) (N := 5) (v := .ref (ad 4)) 40 rfl 11 0 dX0_afterEntry_37 rfl (Nat.le_of_ble_eq_true rfl) i0 (by decide +kernel) rfl rfl ?_
  refine v_getN (ci := 1) (C := RX1) (T := TX1) (N := 9) (v := .ref (ad 5)) 43 rfl 4 0 dX0_afterEntry_40 rfl (Nat.le_of_ble_eq_true rfl) i1 (by decide +kernel) rfl rfl ?_
  refine v_iload_n 44 rfl dX0_afterEntry_43 rfl rfl ?_
  refine v_iald (j := t) (v := nI 6) 45 rfl 5 0 dX0_afterEntry_44 rfl rfl (by omega) (by decide) hk ?_
  refine v_tabIn (a := 6) 94 dX0_afterEntry_45 (by omega) (by omega) (by omega) rfl (by decide) ?_
  refine v_iload_n 95 rfl dX0_afterEntry_94 rfl rfl ?_
  refine v_aload_n 96 rfl dX0_afterEntry_95 rfl rfl ?_
  refine v_get (ci := 0) (C := RX0) (T := TX0) (N := 5) (v := .ref (ad 13)) 99 rfl 11 3 dX0_afterEntry_96 rfl (Nat.le_of_ble_eq_true rfl) i0 (by decide +kernel) rfl rfl ?_
  refine v_iload_n 100 rfl dX0_afterEntry_99 rfl rfl ?_
  refine v_iald (j := n) (v := nI B) 101 rfl 13 0 dX0_afterEntry_100 rfl rfl (by omega) (by decide) hB ?_
  refine v_icmp_neN (a := A) (b := B) 108 104 rfl dX0_afterEntry_101 (by decide) (by omega) (by omega) (fun c101 => ?_) (fun c101 => ?_)
  · refine v_bipush (v := -5) 110 rfl dX0_afterEntry_108 (by decide) ?_
    exact v_iret dX0_afterEntry_110 rfl (by simp [fI, *] <;> rfl) rfl
  · refine v_iload_n 105 rfl dX0_afterEntry_104 rfl rfl ?_
    refine v_goto 110 dX0_afterEntry_105 (by decide) ?_
    exact v_iret dX0_afterEntry_110 rfl (by simp [fI, *] <;> rfl) rfl

set_option maxRecDepth 100000 in
set_option maxHeartbeats 4000000 in
theorem c_aeEndWhile {D : va_G} {cI cZ cJ : ClassId} {l : Launch} {ad : Nat → Nat} {tg : Nat → Int32} {fn : Nat → Int32} {ki : Nat → Int32} {nu : Nat → Int32} {fi : Nat → Int32} {se : Nat → Int32} {ju : Nat → Int32} {op : Nat → Int32} {en : Nat} {sm : Nat} {ob : Nat} {be : Nat → Int32} {af : Nat → Int32} {pl : Int32} {rf : Int32} {rp : Int32} {rs : Nat} {ra : Nat} {rb : Int32} {rl : Nat} (t n A : Nat) (hte : t < en) (hen : en ≤ 120) (hnu : nu t = nI n) (hn : n < 40) (hA : A < 2 ^ 20) (B : Nat) (hk : ki t = nI 8) (hB : be n = nI B) (hB2 : B < 2 ^ 20) : KM D (tyL cI cZ cJ) l yX0_afterEntry wsX0_afterEntry 3 70 [.ref (ad 11), .int (nI t), .int (nI A)] (wC ad cI cZ tg fn ki nu fi se ju op en sm ob be af pl rf rp rs ra rb rl) (some (.int (fI (if A = B then 0 else 6) A))) (wC ad cI cZ tg fn ki nu fi se ju op en sm ob be af pl rf rp rs ra rb rl) := by
  refine KM.of (cc := cX0_afterEntry) (nL := 4) (ret := (some .int)) (by decide +kernel) rfl (Nat.le_of_ble_eq_true rfl) ?_
  have i0 : ∀ w ∈ u_ws RX0 TX0 5, w ∈ wsX0_afterEntry := by decide +kernel
  have i1 : ∀ w ∈ u_ws RX1 TX1 9, w ∈ wsX0_afterEntry := by decide +kernel
  refine v_aload_n 1 rfl dX0_afterEntry_0 rfl rfl ?_
  refine v_get (ci := 0) (C := RX0) (T := TX0) (N := 5) (v := .ref (ad 4)) 4 rfl 11 0 dX0_afterEntry_1 rfl (Nat.le_of_ble_eq_true rfl) i0 (by decide +kernel) rfl rfl ?_
  refine v_iload_n 5 rfl dX0_afterEntry_4 rfl rfl ?_
  refine v_callF (n := 1) (q0 := 4) (ci := 1) 8 rfl (c_hasEntryT t (by omega) (by omega)) gX0_afterEntry_X1_hasEntry rfl (by decide +kernel) rfl ⟨(Nat.le_of_ble_eq_true rfl), (Nat.le_of_ble_eq_true rfl)⟩ rfl (Nat.le_of_ble_eq_true rfl) rfl rfl rfl dX0_afterEntry_5 ⟨Nat.zero_le _, Nat.zero_le _⟩ rfl ?_
  refine v_st (st' := [.int (bI true)]) rfl ?_
  refine v_if_eqB (b := true) 23 11 rfl dX0_afterEntry_8 (by decide) (fun q => False.elim (by cases q)) (fun c8 => ?_)
  refine v_aload_n 12 rfl dX0_afterEntry_11 rfl rfl ?_
  refine v_get (ci := 0) (C := RX0) (T := TX0) (N := 5) (v := .ref (ad 4)) 15 rfl 11 0 dX0_afterEntry_12 rfl (Nat.le_of_ble_eq_true rfl) i0 (by decide +kernel) rfl rfl ?_
  refine v_getN (ci := 1) (C := RX1) (T := TX1) (N := 9) (v := .ref (ad 6)) 18 rfl 4 1 dX0_afterEntry_15 rfl (Nat.le_of_ble_eq_true rfl) i1 (by decide +kernel) rfl rfl ?_
  refine v_iload_n 19 rfl dX0_afterEntry_18 rfl rfl ?_
  refine v_iald (j := t) (v := nI n) 20 rfl 6 0 dX0_afterEntry_19 rfl rfl (by omega) (by decide) hnu ?_
  refine v_goto 24 dX0_afterEntry_20 (by decide) ?_
  refine v_istore_n (lv' := [(3, .int (nI n)), (0, .ref (ad 11)), (1, .int (nI t)), (2, .int (nI A))]) 25 rfl dX0_afterEntry_24 rfl (Nat.le_of_ble_eq_true rfl) rfl ?_
  refine v_iload_n 26 rfl dX0_afterEntry_25 rfl rfl ?_
  refine v_bipush (v := nI 40) 28 rfl dX0_afterEntry_26 (by decide) ?_
  refine v_callSN (n := 2) 31 rfl (c_isBelowT n 40 (by omega) (by omega)) gX0_afterEntry_X4_isBelow_n36 rfl (by decide +kernel) (by decide +kernel) (by decide +kernel) (by decide +kernel) rfl ⟨(Nat.le_of_ble_eq_true rfl), (Nat.le_of_ble_eq_true rfl)⟩ rfl (Nat.le_of_ble_eq_true rfl) dX0_afterEntry_28 ⟨Nat.zero_le _, Nat.zero_le _⟩ ?_
  refine v_st (st' := [.int (bI true)]) rfl ?_
  refine v_if_neB (b := true) 36 34 rfl dX0_afterEntry_31 (by decide) (fun c31 => ?_) (fun q => False.elim (by cases q))
  refine v_aload_n 37 rfl dX0_afterEntry_36 rfl rfl ?_
  refine v_get (ci := 0) (C := RX0) (T := TX0) (N := 5) (v := .ref (ad 4)) 40 rfl 11 0 dX0_afterEntry_37 rfl (Nat.le_of_ble_eq_true rfl) i0 (by decide +kernel) rfl rfl ?_
  refine v_getN (ci := 1) (C := RX1) (T := TX1) (N := 9) (v := .ref (ad 5)) 43 rfl 4 0 dX0_afterEntry_40 rfl (Nat.le_of_ble_eq_true rfl) i1 (by decide +kernel) rfl rfl ?_
  refine v_iload_n 44 rfl dX0_afterEntry_43 rfl rfl ?_
  refine v_iald (j := t) (v := nI 8) 45 rfl 5 0 dX0_afterEntry_44 rfl rfl (by omega) (by decide) hk ?_
  refine v_tabIn (a := 8) 111 dX0_afterEntry_45 (by omega) (by omega) (by omega) rfl (by decide) ?_
  refine v_iload_n 112 rfl dX0_afterEntry_111 rfl rfl ?_
  refine v_aload_n 113 rfl dX0_afterEntry_112 rfl rfl ?_
  refine v_get (ci := 0) (C := RX0) (T := TX0) (N := 5) (v := .ref (ad 12)) 116 rfl 11 2 dX0_afterEntry_113 rfl (Nat.le_of_ble_eq_true rfl) i0 (by decide +kernel) rfl rfl ?_
  refine v_iload_n 117 rfl dX0_afterEntry_116 rfl rfl ?_
  refine v_iald (j := n) (v := nI B) 118 rfl 12 0 dX0_afterEntry_117 rfl rfl (by omega) (by decide) hB ?_
  refine v_icmp_neN (a := A) (b := B) 125 121 rfl dX0_afterEntry_118 (by decide) (by omega) (by omega) (fun c118 => ?_) (fun c118 => ?_)
  · refine v_bipush (v := -6) 127 rfl dX0_afterEntry_125 (by decide) ?_
    exact v_iret dX0_afterEntry_127 rfl (by simp [fI, *] <;> rfl) rfl
  · refine v_iload_n 122 rfl dX0_afterEntry_121 rfl rfl ?_
    refine v_goto 127 dX0_afterEntry_122 (by decide) ?_
    exact v_iret dX0_afterEntry_127 rfl (by simp [fI, *] <;> rfl) rfl

set_option maxRecDepth 100000 in
set_option maxHeartbeats 4000000 in
theorem c_aeOpen4 {D : va_G} {cI cZ cJ : ClassId} {l : Launch} {ad : Nat → Nat} {tg : Nat → Int32} {fn : Nat → Int32} {ki : Nat → Int32} {nu : Nat → Int32} {fi : Nat → Int32} {se : Nat → Int32} {ju : Nat → Int32} {op : Nat → Int32} {en : Nat} {sm : Nat} {ob : Nat} {be : Nat → Int32} {af : Nat → Int32} {pl : Int32} {rf : Int32} {rp : Int32} {rs : Nat} {ra : Nat} {rb : Int32} {rl : Nat} (t n A : Nat) (hte : t < en) (hen : en ≤ 120) (hnu : nu t = nI n) (hn : n < 40) (hA : A < 2 ^ 20) (hk : ki t = nI 4) : KM D (tyL cI cZ cJ) l yX0_afterEntry wsX0_afterEntry 3 70 [.ref (ad 11), .int (nI t), .int (nI A)] (wC ad cI cZ tg fn ki nu fi se ju op en sm ob be af pl rf rp rs ra rb rl) (some (.int (nI A))) (wC ad cI cZ tg fn ki nu fi se ju op en sm ob (upd be n (nI A)) af pl rf rp rs ra rb rl) := by
  refine KM.of (cc := cX0_afterEntry) (nL := 4) (ret := (some .int)) (by decide +kernel) rfl (Nat.le_of_ble_eq_true rfl) ?_
  have i0 : ∀ w ∈ u_ws RX0 TX0 5, w ∈ wsX0_afterEntry := by decide +kernel
  have i1 : ∀ w ∈ u_ws RX1 TX1 9, w ∈ wsX0_afterEntry := by decide +kernel
  refine v_aload_n 1 rfl dX0_afterEntry_0 rfl rfl ?_
  refine v_get (ci := 0) (C := RX0) (T := TX0) (N := 5) (v := .ref (ad 4)) 4 rfl 11 0 dX0_afterEntry_1 rfl (Nat.le_of_ble_eq_true rfl) i0 (by decide +kernel) rfl rfl ?_
  refine v_iload_n 5 rfl dX0_afterEntry_4 rfl rfl ?_
  refine v_callF (n := 1) (q0 := 4) (ci := 1) 8 rfl (c_hasEntryT t (by omega) (by omega)) gX0_afterEntry_X1_hasEntry rfl (by decide +kernel) rfl ⟨(Nat.le_of_ble_eq_true rfl), (Nat.le_of_ble_eq_true rfl)⟩ rfl (Nat.le_of_ble_eq_true rfl) rfl rfl rfl dX0_afterEntry_5 ⟨Nat.zero_le _, Nat.zero_le _⟩ rfl ?_
  refine v_st (st' := [.int (bI true)]) rfl ?_
  refine v_if_eqB (b := true) 23 11 rfl dX0_afterEntry_8 (by decide) (fun q => False.elim (by cases q)) (fun c8 => ?_)
  refine v_aload_n 12 rfl dX0_afterEntry_11 rfl rfl ?_
  refine v_get (ci := 0) (C := RX0) (T := TX0) (N := 5) (v := .ref (ad 4)) 15 rfl 11 0 dX0_afterEntry_12 rfl (Nat.le_of_ble_eq_true rfl) i0 (by decide +kernel) rfl rfl ?_
  refine v_getN (ci := 1) (C := RX1) (T := TX1) (N := 9) (v := .ref (ad 6)) 18 rfl 4 1 dX0_afterEntry_15 rfl (Nat.le_of_ble_eq_true rfl) i1 (by decide +kernel) rfl rfl ?_
  refine v_iload_n 19 rfl dX0_afterEntry_18 rfl rfl ?_
  refine v_iald (j := t) (v := nI n) 20 rfl 6 0 dX0_afterEntry_19 rfl rfl (by omega) (by decide) hnu ?_
  refine v_goto 24 dX0_afterEntry_20 (by decide) ?_
  refine v_istore_n (lv' := [(3, .int (nI n)), (0, .ref (ad 11)), (1, .int (nI t)), (2, .int (nI A))]) 25 rfl dX0_afterEntry_24 rfl (Nat.le_of_ble_eq_true rfl) rfl ?_
  refine v_iload_n 26 rfl dX0_afterEntry_25 rfl rfl ?_
  refine v_bipush (v := nI 40) 28 rfl dX0_afterEntry_26 (by decide) ?_
  refine v_callSN (n := 2) 31 rfl (c_isBelowT n 40 (by omega) (by omega)) gX0_afterEntry_X4_isBelow_n36 rfl (by decide +kernel) (by decide +kernel) (by decide +kernel) (by decide +kernel) rfl ⟨(Nat.le_of_ble_eq_true rfl), (Nat.le_of_ble_eq_true rfl)⟩ rfl (Nat.le_of_ble_eq_true rfl) dX0_afterEntry_28 ⟨Nat.zero_le _, Nat.zero_le _⟩ ?_
  refine v_st (st' := [.int (bI true)]) rfl ?_
  refine v_if_neB (b := true) 36 34 rfl dX0_afterEntry_31 (by decide) (fun c31 => ?_) (fun q => False.elim (by cases q))
  refine v_aload_n 37 rfl dX0_afterEntry_36 rfl rfl ?_
  refine v_get (ci := 0) (C := RX0) (T := TX0) (N := 5) (v := .ref (ad 4)) 40 rfl 11 0 dX0_afterEntry_37 rfl (Nat.le_of_ble_eq_true rfl) i0 (by decide +kernel) rfl rfl ?_
  refine v_getN (ci := 1) (C := RX1) (T := TX1) (N := 9) (v := .ref (ad 5)) 43 rfl 4 0 dX0_afterEntry_40 rfl (Nat.le_of_ble_eq_true rfl) i1 (by decide +kernel) rfl rfl ?_
  refine v_iload_n 44 rfl dX0_afterEntry_43 rfl rfl ?_
  refine v_iald (j := t) (v := nI 4) 45 rfl 5 0 dX0_afterEntry_44 rfl rfl (by omega) (by decide) hk ?_
  refine v_tabIn (a := 4) 128 dX0_afterEntry_45 (by omega) (by omega) (by omega) rfl (by decide) ?_
  refine v_aload_n 129 rfl dX0_afterEntry_128 rfl rfl ?_
  refine v_get (ci := 0) (C := RX0) (T := TX0) (N := 5) (v := .ref (ad 12)) 132 rfl 11 2 dX0_afterEntry_129 rfl (Nat.le_of_ble_eq_true rfl) i0 (by decide +kernel) rfl rfl ?_
  refine v_iload_n 133 rfl dX0_afterEntry_132 rfl rfl ?_
  refine v_iload_n 134 rfl dX0_afterEntry_133 rfl rfl ?_
  refine v_iast (j := n) (w' := wC ad cI cZ tg fn ki nu fi se ju op en sm ob (upd be n (nI A)) af pl rf rp rs ra rb rl) 135 rfl 12 0 dX0_afterEntry_134 rfl rfl (by omega) (by decide) rfl ?_
  refine v_iload_n 136 rfl dX0_afterEntry_135 rfl rfl ?_
  exact v_iret dX0_afterEntry_136 rfl rfl rfl

set_option maxRecDepth 100000 in
set_option maxHeartbeats 4000000 in
theorem c_aeOpen7 {D : va_G} {cI cZ cJ : ClassId} {l : Launch} {ad : Nat → Nat} {tg : Nat → Int32} {fn : Nat → Int32} {ki : Nat → Int32} {nu : Nat → Int32} {fi : Nat → Int32} {se : Nat → Int32} {ju : Nat → Int32} {op : Nat → Int32} {en : Nat} {sm : Nat} {ob : Nat} {be : Nat → Int32} {af : Nat → Int32} {pl : Int32} {rf : Int32} {rp : Int32} {rs : Nat} {ra : Nat} {rb : Int32} {rl : Nat} (t n A : Nat) (hte : t < en) (hen : en ≤ 120) (hnu : nu t = nI n) (hn : n < 40) (hA : A < 2 ^ 20) (hk : ki t = nI 7) : KM D (tyL cI cZ cJ) l yX0_afterEntry wsX0_afterEntry 3 70 [.ref (ad 11), .int (nI t), .int (nI A)] (wC ad cI cZ tg fn ki nu fi se ju op en sm ob be af pl rf rp rs ra rb rl) (some (.int (nI A))) (wC ad cI cZ tg fn ki nu fi se ju op en sm ob (upd be n (nI A)) af pl rf rp rs ra rb rl) := by
  refine KM.of (cc := cX0_afterEntry) (nL := 4) (ret := (some .int)) (by decide +kernel) rfl (Nat.le_of_ble_eq_true rfl) ?_
  have i0 : ∀ w ∈ u_ws RX0 TX0 5, w ∈ wsX0_afterEntry := by decide +kernel
  have i1 : ∀ w ∈ u_ws RX1 TX1 9, w ∈ wsX0_afterEntry := by decide +kernel
  refine v_aload_n 1 rfl dX0_afterEntry_0 rfl rfl ?_
  refine v_get (ci := 0) (C := RX0) (T := TX0) (N := 5) (v := .ref (ad 4)) 4 rfl 11 0 dX0_afterEntry_1 rfl (Nat.le_of_ble_eq_true rfl) i0 (by decide +kernel) rfl rfl ?_
  refine v_iload_n 5 rfl dX0_afterEntry_4 rfl rfl ?_
  refine v_callF (n := 1) (q0 := 4) (ci := 1) 8 rfl (c_hasEntryT t (by omega) (by omega)) gX0_afterEntry_X1_hasEntry rfl (by decide +kernel) rfl ⟨(Nat.le_of_ble_eq_true rfl), (Nat.le_of_ble_eq_true rfl)⟩ rfl (Nat.le_of_ble_eq_true rfl) rfl rfl rfl dX0_afterEntry_5 ⟨Nat.zero_le _, Nat.zero_le _⟩ rfl ?_
  refine v_st (st' := [.int (bI true)]) rfl ?_
  refine v_if_eqB (b := true) 23 11 rfl dX0_afterEntry_8 (by decide) (fun q => False.elim (by cases q)) (fun c8 => ?_)
  refine v_aload_n 12 rfl dX0_afterEntry_11 rfl rfl ?_
  refine v_get (ci := 0) (C := RX0) (T := TX0) (N := 5) (v := .ref (ad 4)) 15 rfl 11 0 dX0_afterEntry_12 rfl (Nat.le_of_ble_eq_true rfl) i0 (by decide +kernel) rfl rfl ?_
  refine v_getN (ci := 1) (C := RX1) (T := TX1) (N := 9) (v := .ref (ad 6)) 18 rfl 4 1 dX0_afterEntry_15 rfl (Nat.le_of_ble_eq_true rfl) i1 (by decide +kernel) rfl rfl ?_
  refine v_iload_n 19 rfl dX0_afterEntry_18 rfl rfl ?_
  refine v_iald (j := t) (v := nI n) 20 rfl 6 0 dX0_afterEntry_19 rfl rfl (by omega) (by decide) hnu ?_
  refine v_goto 24 dX0_afterEntry_20 (by decide) ?_
  refine v_istore_n (lv' := [(3, .int (nI n)), (0, .ref (ad 11)), (1, .int (nI t)), (2, .int (nI A))]) 25 rfl dX0_afterEntry_24 rfl (Nat.le_of_ble_eq_true rfl) rfl ?_
  refine v_iload_n 26 rfl dX0_afterEntry_25 rfl rfl ?_
  refine v_bipush (v := nI 40) 28 rfl dX0_afterEntry_26 (by decide) ?_
  refine v_callSN (n := 2) 31 rfl (c_isBelowT n 40 (by omega) (by omega)) gX0_afterEntry_X4_isBelow_n36 rfl (by decide +kernel) (by decide +kernel) (by decide +kernel) (by decide +kernel) rfl ⟨(Nat.le_of_ble_eq_true rfl), (Nat.le_of_ble_eq_true rfl)⟩ rfl (Nat.le_of_ble_eq_true rfl) dX0_afterEntry_28 ⟨Nat.zero_le _, Nat.zero_le _⟩ ?_
  refine v_st (st' := [.int (bI true)]) rfl ?_
  refine v_if_neB (b := true) 36 34 rfl dX0_afterEntry_31 (by decide) (fun c31 => ?_) (fun q => False.elim (by cases q))
  refine v_aload_n 37 rfl dX0_afterEntry_36 rfl rfl ?_
  refine v_get (ci := 0) (C := RX0) (T := TX0) (N := 5) (v := .ref (ad 4)) 40 rfl 11 0 dX0_afterEntry_37 rfl (Nat.le_of_ble_eq_true rfl) i0 (by decide +kernel) rfl rfl ?_
  refine v_getN (ci := 1) (C := RX1) (T := TX1) (N := 9) (v := .ref (ad 5)) 43 rfl 4 0 dX0_afterEntry_40 rfl (Nat.le_of_ble_eq_true rfl) i1 (by decide +kernel) rfl rfl ?_
  refine v_iload_n 44 rfl dX0_afterEntry_43 rfl rfl ?_
  refine v_iald (j := t) (v := nI 7) 45 rfl 5 0 dX0_afterEntry_44 rfl rfl (by omega) (by decide) hk ?_
  refine v_tabIn (a := 7) 128 dX0_afterEntry_45 (by omega) (by omega) (by omega) rfl (by decide) ?_
  refine v_aload_n 129 rfl dX0_afterEntry_128 rfl rfl ?_
  refine v_get (ci := 0) (C := RX0) (T := TX0) (N := 5) (v := .ref (ad 12)) 132 rfl 11 2 dX0_afterEntry_129 rfl (Nat.le_of_ble_eq_true rfl) i0 (by decide +kernel) rfl rfl ?_
  refine v_iload_n 133 rfl dX0_afterEntry_132 rfl rfl ?_
  refine v_iload_n 134 rfl dX0_afterEntry_133 rfl rfl ?_
  refine v_iast (j := n) (w' := wC ad cI cZ tg fn ki nu fi se ju op en sm ob (upd be n (nI A)) af pl rf rp rs ra rb rl) 135 rfl 12 0 dX0_afterEntry_134 rfl rfl (by omega) (by decide) rfl ?_
  refine v_iload_n 136 rfl dX0_afterEntry_135 rfl rfl ?_
  exact v_iret dX0_afterEntry_136 rfl rfl rfl

set_option maxRecDepth 100000 in
set_option maxHeartbeats 4000000 in
theorem c_aeSimple {D : va_G} {cI cZ cJ : ClassId} {l : Launch} {ad : Nat → Nat} {tg : Nat → Int32} {fn : Nat → Int32} {ki : Nat → Int32} {nu : Nat → Int32} {fi : Nat → Int32} {se : Nat → Int32} {ju : Nat → Int32} {op : Nat → Int32} {en : Nat} {sm : Nat} {ob : Nat} {be : Nat → Int32} {af : Nat → Int32} {pl : Int32} {rf : Int32} {rp : Int32} {rs : Nat} {ra : Nat} {rb : Int32} {rl : Nat} (t n A : Nat) (hte : t < en) (hen : en ≤ 120) (hnu : nu t = nI n) (hn : n < 40) (hA : A < 2 ^ 20) (tn : Nat → Nat) (fb : Nat → Bool) (d v x : Nat) (hk : ki t = nI d) (hd : d < 4) (hv : v < 4) (hx : x < 4) (hx3 : d = 0 → x < 3) (hob : ∀ v, v < 4 → hb A v ≤ 24) (hf : fi t = nI v) (hs : se t = nI x) (htg : ∀ i, i < 96 → tg i = oI (tn i) ∧ tn i ≤ 5) (hfn : ∀ o, o < 24 → fn o = bI (fb o)) : KM D (tyL cI cZ cJ) l yX0_afterEntry wsX0_afterEntry 3 70 [.ref (ad 11), .int (nI t), .int (nI A)] (wC ad cI cZ tg fn ki nu fi se ju op en sm ob be af pl rf rp rs ra rb rl) (some (.int (fI (sim tn fb d v x A).1 (sim tn fb d v x A).2))) (wC ad cI cZ tg fn ki nu fi se ju op en sm ob (upd be n (nI A)) af pl rf rp rs ra rb rl) := by
  refine KM.of (cc := cX0_afterEntry) (nL := 4) (ret := (some .int)) (by decide +kernel) rfl (Nat.le_of_ble_eq_true rfl) ?_
  have i0 : ∀ w ∈ u_ws RX0 TX0 5, w ∈ wsX0_afterEntry := by decide +kernel
  have i1 : ∀ w ∈ u_ws RX1 TX1 9, w ∈ wsX0_afterEntry := by decide +kernel
  refine v_aload_n 1 rfl dX0_afterEntry_0 rfl rfl ?_
  refine v_get (ci := 0) (C := RX0) (T := TX0) (N := 5) (v := .ref (ad 4)) 4 rfl 11 0 dX0_afterEntry_1 rfl (Nat.le_of_ble_eq_true rfl) i0 (by decide +kernel) rfl rfl ?_
  refine v_iload_n 5 rfl dX0_afterEntry_4 rfl rfl ?_
  refine v_callF (n := 1) (q0 := 4) (ci := 1) 8 rfl (c_hasEntryT t (by omega) (by omega)) gX0_afterEntry_X1_hasEntry rfl (by decide +kernel) rfl ⟨(Nat.le_of_ble_eq_true rfl), (Nat.le_of_ble_eq_true rfl)⟩ rfl (Nat.le_of_ble_eq_true rfl) rfl rfl rfl dX0_afterEntry_5 ⟨Nat.zero_le _, Nat.zero_le _⟩ rfl ?_
  refine v_st (st' := [.int (bI true)]) rfl ?_
  refine v_if_eqB (b := true) 23 11 rfl dX0_afterEntry_8 (by decide) (fun q => False.elim (by cases q)) (fun c8 => ?_)
  refine v_aload_n 12 rfl dX0_afterEntry_11 rfl rfl ?_
  refine v_get (ci := 0) (C := RX0) (T := TX0) (N := 5) (v := .ref (ad 4)) 15 rfl 11 0 dX0_afterEntry_12 rfl (Nat.le_of_ble_eq_true rfl) i0 (by decide +kernel) rfl rfl ?_
  refine v_getN (ci := 1) (C := RX1) (T := TX1) (N := 9) (v := .ref (ad 6)) 18 rfl 4 1 dX0_afterEntry_15 rfl (Nat.le_of_ble_eq_true rfl) i1 (by decide +kernel) rfl rfl ?_
  refine v_iload_n 19 rfl dX0_afterEntry_18 rfl rfl ?_
  refine v_iald (j := t) (v := nI n) 20 rfl 6 0 dX0_afterEntry_19 rfl rfl (by omega) (by decide) hnu ?_
  refine v_goto 24 dX0_afterEntry_20 (by decide) ?_
  refine v_istore_n (lv' := [(3, .int (nI n)), (0, .ref (ad 11)), (1, .int (nI t)), (2, .int (nI A))]) 25 rfl dX0_afterEntry_24 rfl (Nat.le_of_ble_eq_true rfl) rfl ?_
  refine v_iload_n 26 rfl dX0_afterEntry_25 rfl rfl ?_
  refine v_bipush (v := nI 40) 28 rfl dX0_afterEntry_26 (by decide) ?_
  refine v_callSN (n := 2) 31 rfl (c_isBelowT n 40 (by omega) (by omega)) gX0_afterEntry_X4_isBelow_n36 rfl (by decide +kernel) (by decide +kernel) (by decide +kernel) (by decide +kernel) rfl ⟨(Nat.le_of_ble_eq_true rfl), (Nat.le_of_ble_eq_true rfl)⟩ rfl (Nat.le_of_ble_eq_true rfl) dX0_afterEntry_28 ⟨Nat.zero_le _, Nat.zero_le _⟩ ?_
  refine v_st (st' := [.int (bI true)]) rfl ?_
  refine v_if_neB (b := true) 36 34 rfl dX0_afterEntry_31 (by decide) (fun c31 => ?_) (fun q => False.elim (by cases q))
  refine v_aload_n 37 rfl dX0_afterEntry_36 rfl rfl ?_
  refine v_get (ci := 0) (C := RX0) (T := TX0) (N := 5) (v := .ref (ad 4)) 40 rfl 11 0 dX0_afterEntry_37 rfl (Nat.le_of_ble_eq_true rfl) i0 (by decide +kernel) rfl rfl ?_
  refine v_getN (ci := 1) (C := RX1) (T := TX1) (N := 9) (v := .ref (ad 5)) 43 rfl 4 0 dX0_afterEntry_40 rfl (Nat.le_of_ble_eq_true rfl) i1 (by decide +kernel) rfl rfl ?_
  refine v_iload_n 44 rfl dX0_afterEntry_43 rfl rfl ?_
  refine v_iald (j := t) (v := nI d) 45 rfl 5 0 dX0_afterEntry_44 rfl rfl (by omega) (by decide) hk ?_
  refine v_tabOut (a := d) 137 dX0_afterEntry_45 (by omega) (by omega) (by decide) ?_
  refine v_aload_n 138 rfl dX0_afterEntry_137 rfl rfl ?_
  refine v_get (ci := 0) (C := RX0) (T := TX0) (N := 5) (v := .ref (ad 12)) 141 rfl 11 2 dX0_afterEntry_138 rfl (Nat.le_of_ble_eq_true rfl) i0 (by decide +kernel) rfl rfl ?_
  refine v_iload_n 142 rfl dX0_afterEntry_141 rfl rfl ?_
  refine v_iload_n 143 rfl dX0_afterEntry_142 rfl rfl ?_
  refine v_iast (j := n) (w' := wC ad cI cZ tg fn ki nu fi se ju op en sm ob (upd be n (nI A)) af pl rf rp rs ra rb rl) 144 rfl 12 0 dX0_afterEntry_143 rfl rfl (by omega) (by decide) rfl ?_
  refine v_aload_n 145 rfl dX0_afterEntry_144 rfl rfl ?_
  refine v_get (ci := 0) (C := RX0) (T := TX0) (N := 5) (v := .ref (ad 4)) 148 rfl 11 0 dX0_afterEntry_145 rfl (Nat.le_of_ble_eq_true rfl) i0 (by decide +kernel) rfl rfl ?_
  refine v_iload_n 149 rfl dX0_afterEntry_148 rfl rfl ?_
  refine v_iload_n 150 rfl dX0_afterEntry_149 rfl rfl ?_
  refine v_aload_n 151 rfl dX0_afterEntry_150 rfl rfl ?_
  refine v_get (ci := 0) (C := RX0) (T := TX0) (N := 5) (v := .ref (ad 1)) 154 rfl 11 1 dX0_afterEntry_151 rfl (Nat.le_of_ble_eq_true rfl) i0 (by decide +kernel) rfl rfl ?_
  refine v_callF (n := 3) (q0 := 4) (ci := 1) 157 rfl (c_afterSimple tn fb t d v x A hte hen hk hd hv hx hx3 hA hob hf hs htg hfn) gX0_afterEntry_X1_afterSimple rfl (by decide +kernel) rfl ⟨(Nat.le_of_ble_eq_true rfl), (Nat.le_of_ble_eq_true rfl)⟩ rfl (Nat.le_of_ble_eq_true rfl) rfl rfl rfl dX0_afterEntry_154 ⟨Nat.zero_le _, Nat.zero_le _⟩ rfl ?_
  refine v_st (st' := [.int (fI (sim tn fb d v x A).1 (sim tn fb d v x A).2)]) rfl ?_
  exact v_iret dX0_afterEntry_157 rfl rfl rfl

/-- what an entry needs, for its checking -/
def Saf (ki nu fi se : Nat → Int32) (t A : Nat) (be af : Nat → Int32) : Prop := ∃ d n v x : Nat, ki t = nI d ∧ d < 9 ∧ nu t = nI n ∧ n < 40 ∧ fi t = nI v ∧ v < 4 ∧ se t = nI x ∧ x < 4 ∧ (d = 0 → x < 3) ∧ A < 2 ^ 20 ∧ (∀ v, v < 4 → hb A v ≤ 24) ∧ (d = 5 → ∃ B : Nat, B < 2 ^ 20 ∧ be n = nI B) ∧ (d = 6 → ∃ B : Nat, B < 2 ^ 20 ∧ af n = nI B) ∧ (d = 8 → ∃ B : Nat, B < 2 ^ 20 ∧ be n = nI B)
def cstA (tn : Nat → Nat) (fb : Nat → Bool) (ki nu fi se : Nat → Int32) (t A : Nat) (be af : Nat → Int32) : Nat × Nat × (Nat → Int32) × (Nat → Int32) := cst tn fb (tN (ki t)) (tN (nu t)) (tN (fi t)) (tN (se t)) A be af
theorem c_afterEntry {D : va_G} {cI cZ cJ : ClassId} {l : Launch} {ad : Nat → Nat} {tg : Nat → Int32} {fn : Nat → Int32} {ki : Nat → Int32} {nu : Nat → Int32} {fi : Nat → Int32} {se : Nat → Int32} {ju : Nat → Int32} {op : Nat → Int32} {en : Nat} {sm : Nat} {ob : Nat} {be : Nat → Int32} {af : Nat → Int32} {pl : Int32} {rf : Int32} {rp : Int32} {rs : Nat} {ra : Nat} {rb : Int32} {rl : Nat} (tn : Nat → Nat) (fb : Nat → Bool) (t A : Nat) (hte : t < en) (hen : en ≤ 120) (hsaf : Saf ki nu fi se t A be af) (htg : ∀ i, i < 96 → tg i = oI (tn i) ∧ tn i ≤ 5) (hfn : ∀ o, o < 24 → fn o = bI (fb o)) : KM D (tyL cI cZ cJ) l yX0_afterEntry wsX0_afterEntry 3 70 [.ref (ad 11), .int (nI t), .int (nI A)] (wC ad cI cZ tg fn ki nu fi se ju op en sm ob be af pl rf rp rs ra rb rl) (some (.int (fI (cstA tn fb ki nu fi se t A be af).1 (cstA tn fb ki nu fi se t A be af).2.1))) (wC ad cI cZ tg fn ki nu fi se ju op en sm ob ((cstA tn fb ki nu fi se t A be af).2.2.1) ((cstA tn fb ki nu fi se t A be af).2.2.2) pl rf rp rs ra rb rl) := by
  obtain ⟨d, n, v, x, hk, hd, hnu, hn, hf, hv, hs, hx, hx3, hA, hob, h5, h6, h8⟩ := hsaf
  have e0 : cstA tn fb ki nu fi se t A be af = cst tn fb d n v x A be af := by simp only [cstA]; rw [hk, hnu, hf, hs, tN_nI (by omega), tN_nI (by omega), tN_nI (by omega), tN_nI (by omega)]
  rw [e0]
  by_cases d5 : d = 5
  · subst d5
    obtain ⟨B, hB2, hB⟩ := h5 rfl
    have e : cst tn fb 5 n v x A be af = (0, B, be, upd af n (nI A)) := by simp only [cst, if_pos]; rw [hB, tN_nI (by omega)]
    rw [e]
    exact c_aeElse t n A hte hen hnu hn hA B hk hB
  by_cases d6 : d = 6
  · subst d6
    obtain ⟨B, hB2, hB⟩ := h6 rfl
    have e : cst tn fb 6 n v x A be af = (if A = B then 0 else 5, A, be, af) := by simp [cst]; rw [hB, tN_nI (by omega)]
    rw [e]
    exact c_aeEndIf t n A hte hen hnu hn hA B hk hB hB2
  by_cases d8 : d = 8
  · subst d8
    obtain ⟨B, hB2, hB⟩ := h8 rfl
    have e : cst tn fb 8 n v x A be af = (if A = B then 0 else 6, A, be, af) := by simp [cst]; rw [hB, tN_nI (by omega)]
    rw [e]
    exact c_aeEndWhile t n A hte hen hnu hn hA B hk hB hB2
  by_cases d4 : d = 4
  · subst d4
    have e : cst tn fb 4 n v x A be af = (0, A, upd be n (nI A), af) := by simp [cst]
    rw [e]
    exact c_aeOpen4 t n A hte hen hnu hn hA hk
  by_cases d7 : d = 7
  · subst d7
    have e : cst tn fb 7 n v x A be af = (0, A, upd be n (nI A), af) := by simp [cst]
    rw [e]
    exact c_aeOpen7 t n A hte hen hnu hn hA hk
  have e : cst tn fb d n v x A be af = ((sim tn fb d v x A).1, (sim tn fb d v x A).2, upd be n (nI A), af) := by simp [cst, d5, d6, d8, d4, d7]
  rw [e]
  exact c_aeSimple t n A hte hen hnu hn hA tn fb d v x hk (by omega) hv hx hx3 hob hf hs htg hfn

