set_option maxRecDepth 100000 in
set_option maxHeartbeats 4000000 in
theorem law_loop {D : va_G} {cI cZ cJ : ClassId} {l : Launch} {b L : Nat} {xs : Nat → Int32} {sa : Nat → Nat} {nm : String} {ad bd : Nat → Nat} {o : Nat} (hlT : l.stackTraces = false) (hL : L ≤ 2560) : ∀ (n j : Nat), 5 * j ≤ L → L < 5 * (j + n) → LHd (xLw D cI cZ cJ l b L xs sa) (kLw nm) (33 + j) (1375 + 6 * j) 23 ad bd cI cZ cJ o (lvj j b (ad 0) (bd 0) o) := by
  intro n
  induction n with
  | zero => intro j h1 h2; omega
  | succ n ih =>
    intro j h1 h2
    intro tg fn ki nu fi se ju op en sm ob be af pl rf rp rs ra rb rl le la kd fs sc mi bh oo ie mp mt mc no lf he pi ot bf ar md g hR
    refine v_iload 25 rfl dL_law_23 rfl ?_
    refine v_aload_n 26 rfl dL_law_25 rfl rfl ?_
    refine v_slen 27 rfl dL_law_26 ?_
    refine v_iconst (v := nI 5) 28 rfl dL_law_27 (by decide) ?_
    refine v_isub 29 rfl dL_law_28 ?_
    refine v_icmp_gt 671 32 rfl dL_law_29 (by decide) (fun q => ?_) (fun q => ?_)
    · refine v_iconst (v := 1) 672 rfl dL_law_671 (by decide) ?_
      exact v_lawret dL_law_672 (by omega) (by omega)
    · rw [i_gt (by omega) (by omega)] at q
      have hj : 5 * j + 5 ≤ L := by omega
      have T : LHd (xLw D cI cZ cJ l b L xs sa) (kLw nm) (33 + j + 1) (1375 + 6 * j + 6) 665 ad bd cI cZ cJ o (lvj j b (ad 0) (bd 0) o) := by
        intro tg fn ki nu fi se ju op en sm ob be af pl rf rp rs ra rb rl le la kd fs sc mi bh oo ie mp mt mc no lf he pi ot bf ar md g hR
        refine v_iinc (v := nI (5 * j + 5)) (lv' := lvj (j + 1) b (ad 0) (bd 0) o) 668 rfl dL_law_665 0 rfl (nI_add _ _) (Nat.le_of_ble_eq_true rfl) rfl ?_
        refine v_goto 23 dL_law_668 (by decide) ?_
        exact ih (j + 1) (by omega) (by omega) tg fn ki nu fi se ju op en sm ob be af pl rf rp rs ra rb rl le la kd fs sc mi bh oo ie mp mt mc no lf he pi ot bf ar md g hR
      refine v_aload_n 33 rfl dL_law_32 rfl rfl ?_
      refine v_iload 35 rfl dL_law_33 rfl ?_
      refine v_sld (i := 5 * j) (v := xs (5 * j)) 36 rfl dL_law_35 (by omega) (by omega) rfl ?_
      refine v_bipush (v := nI 31) 38 rfl dL_law_36 (by decide) ?_
      refine v_iand 39 rfl dL_law_38 ?_
      obtain ⟨c, hc, ec⟩ := i_and31 (xs (5 * j))
      refine v_top (v' := nI c) ec ?_
      by_cases h20 : c < 20
      · rcases (show c = 0 ∨ c = 1 ∨ c = 2 ∨ c = 3 ∨ c = 4 ∨ c = 5 ∨ c = 6 ∨ c = 7 ∨ c = 8 ∨ c = 9 ∨ c = 10 ∨ c = 11 ∨ c = 12 ∨ c = 13 ∨ c = 14 ∨ c = 15 ∨ c = 16 ∨ c = 17 ∨ c = 18 ∨ c = 19 by omega) with rfl | rfl | rfl | rfl | rfl | rfl | rfl | rfl | rfl | rfl | rfl | rfl | rfl | rfl | rfl | rfl | rfl | rfl | rfl | rfl
        · refine v_tabIn (a := 0) 132 dL_law_39 (by omega) (by omega) (by omega) rfl (by decide) ?_
          exact k_lead hlT j hj hL T tg fn ki nu fi se ju op en sm ob be af pl rf rp rs ra rb rl le la kd fs sc mi bh oo ie mp mt mc no lf he pi ot bf ar md g hR
        · refine v_tabIn (a := 1) 193 dL_law_39 (by omega) (by omega) (by omega) rfl (by decide) ?_
          exact k_mark hlT j hj hL T tg fn ki nu fi se ju op en sm ob be af pl rf rp rs ra rb rl le la kd fs sc mi bh oo ie mp mt mc no lf he pi ot bf ar md g hR
        · refine v_tabIn (a := 2) 258 dL_law_39 (by omega) (by omega) (by omega) rfl (by decide) ?_
          exact k_make hlT j hj hL T tg fn ki nu fi se ju op en sm ob be af pl rf rp rs ra rb rl le la kd fs sc mi bh oo ie mp mt mc no lf he pi ot bf ar md g hR
        · refine v_tabIn (a := 3) 295 dL_law_39 (by omega) (by omega) (by omega) rfl (by decide) ?_
          exact k_call hlT j hj hL T tg fn ki nu fi se ju op en sm ob be af pl rf rp rs ra rb rl le la kd fs sc mi bh oo ie mp mt mc no lf he pi ot bf ar md g hR
        · refine v_tabIn (a := 4) 332 dL_law_39 (by omega) (by omega) (by omega) rfl (by decide) ?_
          exact k_move hlT j hj hL T tg fn ki nu fi se ju op en sm ob be af pl rf rp rs ra rb rl le la kd fs sc mi bh oo ie mp mt mc no lf he pi ot bf ar md g hR
        · refine v_tabIn (a := 5) 369 dL_law_39 (by omega) (by omega) (by omega) rfl (by decide) ?_
          exact k_drop hlT j hj hL T tg fn ki nu fi se ju op en sm ob be af pl rf rp rs ra rb rl le la kd fs sc mi bh oo ie mp mt mc no lf he pi ot bf ar md g hR
        · refine v_tabIn (a := 6) 394 dL_law_39 (by omega) (by omega) (by omega) rfl (by decide) ?_
          exact k_choose hlT j hj hL T tg fn ki nu fi se ju op en sm ob be af pl rf rp rs ra rb rl le la kd fs sc mi bh oo ie mp mt mc no lf he pi ot bf ar md g hR
        · refine v_tabIn (a := 7) 407 dL_law_39 (by omega) (by omega) (by omega) rfl (by decide) ?_
          exact k_otherwise hlT j hj hL T tg fn ki nu fi se ju op en sm ob be af pl rf rp rs ra rb rl le la kd fs sc mi bh oo ie mp mt mc no lf he pi ot bf ar md g hR
        · refine v_tabIn (a := 8) 420 dL_law_39 (by omega) (by omega) (by omega) rfl (by decide) ?_
          exact k_repeat hlT j hj hL T tg fn ki nu fi se ju op en sm ob be af pl rf rp rs ra rb rl le la kd fs sc mi bh oo ie mp mt mc no lf he pi ot bf ar md g hR
        · refine v_tabIn (a := 9) 433 dL_law_39 (by omega) (by omega) (by omega) rfl (by decide) ?_
          exact k_end hlT j hj hL T tg fn ki nu fi se ju op en sm ob be af pl rf rp rs ra rb rl le la kd fs sc mi bh oo ie mp mt mc no lf he pi ot bf ar md g hR
        · refine v_tabIn (a := 10) 446 dL_law_39 (by omega) (by omega) (by omega) rfl (by decide) ?_
          exact k_clear hlT j hj hL T tg fn ki nu fi se ju op en sm ob be af pl rf rp rs ra rb rl le la kd fs sc mi bh oo ie mp mt mc no lf he pi ot bf ar md g hR
        · refine v_tabIn (a := 11) 457 dL_law_39 (by omega) (by omega) (by omega) rfl (by decide) ?_
          exact k_size hlT j hj hL T tg fn ki nu fi se ju op en sm ob be af pl rf rp rs ra rb rl le la kd fs sc mi bh oo ie mp mt mc no lf he pi ot bf ar md g hR
        · refine v_tabIn (a := 12) 470 dL_law_39 (by omega) (by omega) (by omega) rfl (by decide) ?_
          exact k_check hlT j hj hL T tg fn ki nu fi se ju op en sm ob be af pl rf rp rs ra rb rl le la kd fs sc mi bh oo ie mp mt mc no lf he pi ot bf ar md g hR
        · refine v_tabIn (a := 13) 483 dL_law_39 (by omega) (by omega) (by omega) rfl (by decide) ?_
          exact k_faultAt hlT j hj hL T tg fn ki nu fi se ju op en sm ob be af pl rf rp rs ra rb rl le la kd fs sc mi bh oo ie mp mt mc no lf he pi ot bf ar md g hR
        · refine v_tabIn (a := 14) 496 dL_law_39 (by omega) (by omega) (by omega) rfl (by decide) ?_
          exact k_held hlT j hj hL T tg fn ki nu fi se ju op en sm ob be af pl rf rp rs ra rb rl le la kd fs sc mi bh oo ie mp mt mc no lf he pi ot bf ar md g hR
        · refine v_tabIn (a := 15) 533 dL_law_39 (by omega) (by omega) (by omega) rfl (by decide) ?_
          exact k_run hlT j hj hL T tg fn ki nu fi se ju op en sm ob be af pl rf rp rs ra rb rl le la kd fs sc mi bh oo ie mp mt mc no lf he pi ot bf ar md g hR
        · refine v_tabIn (a := 16) 601 dL_law_39 (by omega) (by omega) (by omega) rfl (by decide) ?_
          exact k_runFault hlT j hj hL T tg fn ki nu fi se ju op en sm ob be af pl rf rp rs ra rb rl le la kd fs sc mi bh oo ie mp mt mc no lf he pi ot bf ar md g hR
        · refine v_tabIn (a := 17) 614 dL_law_39 (by omega) (by omega) (by omega) rfl (by decide) ?_
          exact k_runAt hlT j hj hL T tg fn ki nu fi se ju op en sm ob be af pl rf rp rs ra rb rl le la kd fs sc mi bh oo ie mp mt mc no lf he pi ot bf ar md g hR
        · refine v_tabIn (a := 18) 627 dL_law_39 (by omega) (by omega) (by omega) rfl (by decide) ?_
          exact k_steps hlT j hj hL T tg fn ki nu fi se ju op en sm ob be af pl rf rp rs ra rb rl le la kd fs sc mi bh oo ie mp mt mc no lf he pi ot bf ar md g hR
        · refine v_tabIn (a := 19) 640 dL_law_39 (by omega) (by omega) (by omega) rfl (by decide) ?_
          exact k_left hlT j hj hL T tg fn ki nu fi se ju op en sm ob be af pl rf rp rs ra rb rl le la kd fs sc mi bh oo ie mp mt mc no lf he pi ot bf ar md g hR
      · refine v_tabOut (a := c) 665 dL_law_39 (by omega) (by omega) (by decide) ?_
        refine v_widen (Nat.le_succ _) (Nat.le_add_right _ 6) ?_
        exact T tg fn ki nu fi se ju op en sm ob be af pl rf rp rs ra rb rl le la kd fs sc mi bh oo ie mp mt mc no lf he pi ot bf ar md g hR

theorem rel0 : REL (fillF (fun _ => 0) 96 (-1)) (fun _ => 0) (fun _ => 0) (fun _ => 0) (fun _ => 0) (fun _ => 0) (fun _ => 0) (fun _ => 0) 0 0 0 (fillF (fun _ => 0) 40 (-1)) (-1) 0 (fun _ => 0) (fun _ => 0) (fun _ => 0) (fun _ => 0) (fun _ => 0) (fun _ => 0) (fun _ => 0) (fun _ => 0) (fun _ => 0) (-1) 0 (fun _ => 0) (upd (upd (upd (upd (fun _ => 0) 0 (-1)) 1 (-1)) 2 (-1)) 3 (-1)) (fun _ => 0) := by
  have z0 : (0 : Int32) = nI 0 := by decide
  have zb : (0 : Int32) = bI false := by decide
  refine ⟨⟨fun _ => 0, fun _ => false, fun i hi => ?_, fun o ho => zb, fun p s e hp hs he => ?_, fun p s hp hs => zb⟩, ⟨by omega, rfl, by omega, rfl, rfl, rfl, by simp [stk, pend], fun t ht => by omega, fun t ht => by rw [show t = 0 by omega]; simp [stk], fun i => ⟨0, by omega, z0⟩, trivial⟩, BeOk.fill, Or.inl ⟨rfl, rfl, fun i hi => by simp [fillF, hi]⟩, ⟨Okh.zero, fun v hv => ?_, fun j hj => ?_⟩, fun j hj => rfl⟩
  · exact ⟨by simp only [fillF, hi, if_true]; decide, Nat.zero_le 5⟩
  · exact ⟨z0, Nat.zero_le 5⟩
  · rw [hb_zero, oI_0]
    rcases (show v = 0 ∨ v = 1 ∨ v = 2 ∨ v = 3 by omega) with rfl | rfl | rfl | rfl <;> rfl
  · rw [pk_un (by omega), pk_un (by omega), pk_un (by omega), pk_un (by omega)]
theorem v_perm {x : XX} {k : KI} {cs ss : Nat} {w w' : va_W} {pc : Nat} {lv : List (Nat × Value)} {st : List Value} (is : List Nat) (hn : va_nd is = true) (h1 : is.filterMap (fun i => w[i]?) = w') (h2 : is.map (fun i => w[i]?) = w'.map some) (h : V x k cs ss w' pc lv st) : V x k cs ss w pc lv st := by
  intro p e s m args below meth c Z H locs ls hP hD hS hl
  exact h p e s m args below meth c Z H locs ls (hP.sub is h1) (hD.sub is hn h2) hS hl

set_option maxRecDepth 100000 in
set_option maxHeartbeats 4000000 in
theorem law_begin {D : va_G} {cI cZ cJ : ClassId} {l : Launch} {b L : Nat} {xs : Nat → Int32} {sa : Nat → Nat} {nm : String} (hlT : l.stackTraces = false) (hL : L ≤ 2560) : V (xLw D cI cZ cJ l b L xs sa) (kLw nm) 0 0 [] 0 [(0, .ref b)] [] := by
  have i4 : ∀ w ∈ u_ws RX4 TX4 4, w ∈ wsL_law := fun _ h => List.mem_append_left _ (List.mem_append_left _ (List.mem_append_left _ (List.mem_append_left _ (List.mem_append_left _ (List.mem_append_left _ (List.mem_append_left _ (List.mem_append_left _ (List.mem_append_right _ h))))))))
  have i5 : ∀ w ∈ u_ws RX5 TX5 25, w ∈ wsL_law := fun _ h => List.mem_append_left _ (List.mem_append_left _ (List.mem_append_left _ (List.mem_append_left _ (List.mem_append_left _ (List.mem_append_left _ (List.mem_append_left _ (List.mem_append_right _ h)))))))
  have m1 : Cond.classLink RL 8 RX4 ∈ wsL_law := by decide +kernel
  have m2 : Cond.instantiable RX4 4 ∈ wsL_law := by decide +kernel
  have m3 : Cond.initialized RX4 ∈ wsL_law := by decide +kernel
  have m4 : Cond.methodLink RL 17 yX4_init ∈ wsL_law := by decide +kernel
  have m5 : Cond.instanceMethod yX4_init ∈ wsL_law := by decide +kernel
  have m6 : Cond.classLink RL 18 RX5 ∈ wsL_law := by decide +kernel
  have m7 : Cond.instantiable RX5 25 ∈ wsL_law := by decide +kernel
  have m8 : Cond.initialized RX5 ∈ wsL_law := by decide +kernel
  have m9 : Cond.methodLink RL 20 yX5_init ∈ wsL_law := by decide +kernel
  have m10 : Cond.instanceMethod yX5_init ∈ wsL_law := by decide +kernel
  have m11 : Cond.arrayClass .long ∈ wsL_law := by decide +kernel
  refine v_new (ci := 4) (C := RX4) (T := TX4) (ty0 := tyX4) (N := 4) (fs := [.null, .null, .null, .null]) 3 rfl dL_law_0 rfl i4 tyX4_ok m1 m2 m3 (by decide +kernel) (Nat.le_of_ble_eq_true rfl) (Nat.le_of_ble_eq_true rfl) (fun q0 => ?_)
  refine v_dup 4 rfl dL_law_3 rfl ?_
  refine v_callI (n := 0) (As := []) [] ([(q0, .inr (4, [.null, .null, .null, .null]))]) 7 rfl (i_class q0) gL_law_X4_init rfl m3 m4 m5 rfl (by decide +kernel) rfl ⟨(Nat.le_of_ble_eq_true rfl), (Nat.le_of_ble_eq_true rfl)⟩ rfl (Nat.le_of_ble_eq_true rfl) dL_law_4 ⟨(Nat.le_of_ble_eq_true rfl), (Nat.le_of_ble_eq_true rfl)⟩ rfl ?_
  rintro _ ⟨ad, h0, rfl⟩
  subst h0
  refine v_w (w' := wC ad cI cZ (fillF (fun _ => 0) 96 (-1)) (fun _ => 0) (fun _ => 0) (fun _ => 0) (fun _ => 0) (fun _ => 0) (fun _ => 0) (fun _ => 0) 0 0 0 (fillF (fun _ => 0) 40 (-1)) (fun _ => 0) (-1) (nI 0) (-1) 0 0 0 0) rfl ?_
  refine v_astore_n (lv' := [(1, .ref (ad 0)), (0, .ref b)]) 8 rfl dL_law_7 rfl (Nat.le_of_ble_eq_true rfl) rfl ?_
  refine v_new (ci := 5) (C := RX5) (T := TX5) (ty0 := tyX5) (N := 25) (fs := [.null, .null, .null, .null, .null, .null, .null, .int 0, .null, .null, .int 0, .int 0, .int 0, .int 0, .int 0, .int 0, .int 0, .null, .null, .null, .null, .null, .null, .null, .int 0]) 11 rfl dL_law_8 rfl i5 tyX5_ok m6 m7 m8 (by decide +kernel) (Nat.le_of_ble_eq_true rfl) (Nat.le_of_ble_eq_true rfl) (fun q1 => ?_)
  refine v_dup 12 rfl dL_law_11 rfl ?_
  refine v_callI (n := 0) (As := []) (wC ad cI cZ (fillF (fun _ => 0) 96 (-1)) (fun _ => 0) (fun _ => 0) (fun _ => 0) (fun _ => 0) (fun _ => 0) (fun _ => 0) (fun _ => 0) 0 0 0 (fillF (fun _ => 0) 40 (-1)) (fun _ => 0) (-1) (nI 0) (-1) 0 0 0 0) ([(q1, .inr (5, [.null, .null, .null, .null, .null, .null, .null, .int 0, .null, .null, .int 0, .int 0, .int 0, .int 0, .int 0, .int 0, .int 0, .null, .null, .null, .null, .null, .null, .null, .int 0]))]) 15 rfl (i_model q1) gL_law_X5_init rfl m8 m9 m10 rfl (by decide +kernel) rfl ⟨(Nat.le_of_ble_eq_true rfl), (Nat.le_of_ble_eq_true rfl)⟩ rfl (Nat.le_of_ble_eq_true rfl) dL_law_12 ⟨(Nat.le_of_ble_eq_true rfl), (Nat.le_of_ble_eq_true rfl)⟩ rfl ?_
  rintro _ ⟨bd, h1, rfl⟩
  subst h1
  refine v_w (w' := wC ad cI cZ (fillF (fun _ => 0) 96 (-1)) (fun _ => 0) (fun _ => 0) (fun _ => 0) (fun _ => 0) (fun _ => 0) (fun _ => 0) (fun _ => 0) 0 0 0 (fillF (fun _ => 0) 40 (-1)) (fun _ => 0) (-1) (nI 0) (-1) 0 0 0 0 ++ wM bd cI cZ (fun _ => 0) (fun _ => 0) (fun _ => 0) (fun _ => 0) (fun _ => 0) (fun _ => 0) (fun _ => 0) 0 (fun _ => 0) (fun _ => 0) 0 (-1) (nI 0) (-1) 0 0 0 (fun _ => 0) (upd (upd (upd (upd (fun _ => 0) 0 (-1)) 1 (-1)) 2 (-1)) 3 (-1)) (fun _ => 0) (fun _ => 0) (fun _ => 0) (fun _ => 0) (fun _ => 0) 0) rfl ?_
  refine v_astore_n (lv' := [(2, .ref (bd 0)), (1, .ref (ad 0)), (0, .ref b)]) 16 rfl dL_law_15 rfl (Nat.le_of_ble_eq_true rfl) rfl ?_
  refine v_iconst (v := nI 1) 17 rfl dL_law_16 (by decide) ?_
  refine v_newa (ty := .long) (cT := cJ) (N' := 1) (a0 := (1, .inr (.inl fun _ => 0))) 19 rfl 2 dL_law_17 m11 rfl rfl (fun _ _ h => h) (fun _ => rfl) (by decide) (by decide) (by decide) (Nat.le_of_ble_eq_true rfl) (Nat.le_of_ble_eq_true rfl) (fun o => ?_)
  refine v_perm (w' := wM bd cI cZ (fun _ => 0) (fun _ => 0) (fun _ => 0) (fun _ => 0) (fun _ => 0) (fun _ => 0) (fun _ => 0) 0 (fun _ => 0) (fun _ => 0) 0 (-1) (nI 0) (-1) 0 0 0 (fun _ => 0) (upd (upd (upd (upd (fun _ => 0) 0 (-1)) 1 (-1)) 2 (-1)) 3 (-1)) (fun _ => 0) (fun _ => 0) (fun _ => 0) (fun _ => 0) (fun _ => 0) 0 ++ (wC ad cI cZ (fillF (fun _ => 0) 96 (-1)) (fun _ => 0) (fun _ => 0) (fun _ => 0) (fun _ => 0) (fun _ => 0) (fun _ => 0) (fun _ => 0) 0 0 0 (fillF (fun _ => 0) 40 (-1)) (fun _ => 0) (-1) (nI 0) (-1) 0 0 0 0 ++ wO o cJ (fun _ => 0))) [15, 16, 17, 18, 19, 20, 21, 22, 23, 24, 25, 26, 27, 28, 29, 30, 31, 0, 1, 2, 3, 4, 5, 6, 7, 8, 9, 10, 11, 12, 13, 14, 32] (by decide) rfl rfl ?_
  refine v_astore_n (lv' := [(3, .ref o), (2, .ref (bd 0)), (1, .ref (ad 0)), (0, .ref b)]) 20 rfl dL_law_19 rfl (Nat.le_of_ble_eq_true rfl) rfl ?_
  refine v_iconst (v := nI 0) 21 rfl dL_law_20 (by decide) ?_
  refine v_istore (lv' := [(4, .int (nI 0)), (3, .ref o), (2, .ref (bd 0)), (1, .ref (ad 0)), (0, .ref b)]) 23 rfl dL_law_21 (Nat.le_of_ble_eq_true rfl) rfl ?_
  refine v_lv (lv' := lvj 0 b (ad 0) (bd 0) o) [0, 4, 3, 2, 1] rfl ?_
  refine v_widen (cs' := 33 + 0) (ss' := 1375 + 6 * 0) (by decide) (by decide) ?_
  exact law_loop hlT hL (L + 1) 0 (by omega) (by omega) (fillF (fun _ => 0) 96 (-1)) (fun _ => 0) (fun _ => 0) (fun _ => 0) (fun _ => 0) (fun _ => 0) (fun _ => 0) (fun _ => 0) 0 0 0 (fillF (fun _ => 0) 40 (-1)) (fun _ => 0) (-1) (nI 0) (-1) 0 0 0 0 (fun _ => 0) (fun _ => 0) (fun _ => 0) (fun _ => 0) (fun _ => 0) (fun _ => 0) (fun _ => 0) (fun _ => 0) (fun _ => 0) (-1) 0 0 (fun _ => 0) (upd (upd (upd (upd (fun _ => 0) 0 (-1)) 1 (-1)) 2 (-1)) 3 (-1)) (fun _ => 0) (fun _ => 0) (fun _ => 0) (fun _ => 0) (fun _ => 0) 0 (fun _ => 0) rel0
