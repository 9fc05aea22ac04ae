/-! the relation of the two states -/
def TBL (tn : Nat → Nat) (fb : Nat → Bool) (tg fn le la : Nat → Int32) : Prop := (∀ i, i < 96 → tg i = oI (tn i) ∧ tn i ≤ 5) ∧ (∀ o, o < 24 → fn o = bI (fb o)) ∧ (∀ p s e : Nat, p < 3 → s < 5 → e < 4 → le (20 * p + 4 * s + e) = nI (tn ((8 * p + s) * 4 + e)) ∧ tn ((8 * p + s) * 4 + e) ≤ 5) ∧ (∀ p s : Nat, p < 3 → s < 5 → la (5 * p + s) = bI (fb (8 * p + s)))
theorem TBL.tn {tn : Nat → Nat} {fb : Nat → Bool} {tg fn le la : Nat → Int32} (h : TBL tn fb tg fn le la) : TN tn := fun p s e hp hs he => (h.2.2.1 p s e hp hs he).2
theorem TBL.lead {tn : Nat → Nat} {fb : Nat → Bool} {tg fn le la : Nat → Int32} (h : TBL tn fb tg fn le la) {p s e t : Nat} (hp : p < 3) (hs : s < 5) (he : e < 4) (ht : t ≤ 5) : TBL (fun i => if i = (8 * p + s) * 4 + e then t else tn i) fb (upd tg ((8 * p + s) * 4 + e) (oI t)) fn (upd le (20 * p + 4 * s + e) (nI t)) la := by
  refine ⟨fun i hi => ?_, h.2.1, fun p' s' e' hp' hs' he' => ?_, h.2.2.2⟩
  · by_cases q : i = (8 * p + s) * 4 + e
    · dsimp only; rw [if_pos q, q, pk_us]; exact ⟨rfl, ht⟩
    · dsimp only; rw [if_neg q, pk_un q]; exact h.1 i hi
  · by_cases q : (8 * p' + s') * 4 + e' = (8 * p + s) * 4 + e
    · dsimp only; rw [if_pos q, show 20 * p' + 4 * s' + e' = 20 * p + 4 * s + e by omega, pk_us]; exact ⟨rfl, ht⟩
    · dsimp only; rw [if_neg q, pk_un (show 20 * p' + 4 * s' + e' ≠ 20 * p + 4 * s + e by omega)]; exact h.2.2.1 p' s' e' hp' hs' he'
theorem TBL.mark {tn : Nat → Nat} {fb : Nat → Bool} {tg fn le la : Nat → Int32} (h : TBL tn fb tg fn le la) {p s : Nat} {b : Bool} (hp : p < 3) (hs : s < 5) : TBL tn (fun o => if o = 8 * p + s then b else fb o) tg (upd fn (8 * p + s) (bI b)) le (upd la (5 * p + s) (bI b)) := by
  refine ⟨h.1, fun o ho => ?_, h.2.2.1, fun p' s' hp' hs' => ?_⟩
  · by_cases q : o = 8 * p + s
    · dsimp only; rw [if_pos q, q, pk_us]
    · dsimp only; rw [if_neg q, pk_un q]; exact h.2.1 o ho
  · by_cases q : 8 * p' + s' = 8 * p + s
    · dsimp only; rw [if_pos q, show 5 * p' + s' = 5 * p + s by omega, pk_us]
    · dsimp only; rw [if_neg q, pk_un (show 5 * p' + s' ≠ 5 * p + s by omega)]; exact h.2.2.2 p' s' hp' hs'
def CHK (pl : Int32) (be : Nat → Int32) (mp mc : Int32) (he : Nat → Int32) : Prop := (mc = 0 ∧ pl = -1 ∧ ∀ i, i < 40 → be i = -1) ∨ (mc = nI 1 ∧ mp = pl ∧ HeR he be)
def LEF (ra : Nat) (lf : Nat → Int32) : Prop := Okh ra ∧ (∀ v, v < 4 → lf v = oI (hb ra v)) ∧ ∀ j, 4 ≤ j → lf j = 0
def REL (tg fn ki nu fi se ju op : Nat → Int32) (en sm ob : Nat) (be : Nat → Int32) (pl : Int32) (ra : Nat) (le la kd fs sc mi bh oo ie : Nat → Int32) (mp mc : Int32) (no lf he : Nat → Int32) : Prop :=
  (∃ tn fb, TBL tn fb tg fn le la) ∧ PR ki nu fi se ju op en sm ob kd fs sc mi bh oo ie sm ob ∧ BeOk be ∧ CHK pl be mp mc he ∧ LEF ra lf ∧ ∀ j, 4 ≤ j → no j = 0
section PRX
variable {ki nu fi se ju op kd fs sc mi bh oo ie : Nat → Int32} {en sm ob mz mo : Nat}
theorem PR.b (h : PR ki nu fi se ju op en sm ob kd fs sc mi bh oo ie mz mo) : sm ≤ 40 ∧ ob ≤ 6 ∧ en ≤ 120 ∧ (sm < 40 → en < 120) := by
  obtain ⟨h1, h2, h3, h4, h5, h6, h7, h8, h9, h10, h11⟩ := h
  refine ⟨h3, by rw [h5]; exact h9 en (Nat.le_refl _), h1, fun q => by omega⟩
theorem PR.nil (h : PR ki nu fi se ju op en sm ob kd fs sc mi bh oo ie mz mo) (h0 : ob = 0) : stk ki en = [] := by
  obtain ⟨h1, h2, h3, h4, h5, h6, h7, h8, h9, h10, h11⟩ := h
  exact List.length_eq_zero_iff.mp (by omega)
theorem PR.top (h : PR ki nu fi se ju op en sm ob kd fs sc mi bh oo ie mz mo) (h0 : 0 < ob) : ∃ (b n d : Nat) (r : List Nat), stk ki en = b :: r ∧ ki b = nI d ∧ (d = 4 ∨ d = 5 ∨ d = 7) ∧ nu b = nI n ∧ n < 40 ∧ kd n = nI (if d = 7 then 5 else 4) ∧ b < en ∧ op (ob - 1) = nI b ∧ oo (ob - 1) = nI n ∧ ie (ob - 1) = bI (decide (d = 5)) ∧ en < 120 ∧ (d = 4 → en + 1 < 120) := by
  obtain ⟨h1, h2, h3, h4, h5, h6, h7, h8, h9, h10, h11⟩ := h
  cases hs : stk ki en with
  | nil => rw [hs] at h5; simp at h5; omega
  | cons b r =>
    have hso := SO.of h8 en (Nat.le_refl _)
    rw [hs] at h5 h7 h11 hso
    obtain ⟨k1, d, n, k2, k3, k4, k5, k6, k7⟩ := SO.mem hso b List.mem_cons_self
    have hdb : dK ki b = d := dK_of k2 (by omega)
    have hob : ob - 1 = r.length := by rw [h5]; simp
    obtain ⟨o1, o2, o3, -⟩ := h11
    rw [hdb] at o3
    simp only [pend, hdb] at h7
    refine ⟨b, n, d, r, rfl, k2, k3, k4, k6, k7, k1, by rw [hob]; exact o1, by rw [hob, o2]; exact k4, by rw [hob]; exact o3, ?_, fun q => ?_⟩
    · have : 1 ≤ (if d = 4 then 2 else 1) := by split <;> omega
      omega
    · rw [if_pos q] at h7
      omega
theorem PR.mid (h : PR ki nu fi se ju op en sm ob kd fs sc mi bh oo ie mz mo) {n : Nat} {x : Int32} (hn : n < 40) (hk : kd n = nI 5) : PR ki nu fi se ju op en sm ob kd fs sc (upd mi n x) bh oo ie mz mo := by
  obtain ⟨h1, h2, h3, h4, h5, h6, h7, h8, h9, h10, h11⟩ := h
  refine ⟨h1, h2, h3, h4, h5, h6, h7, fun t ht => ?_, h9, h10, h11⟩
  obtain ⟨d, m, v, y, e1, e2, e3, e4, e5, e6, e7, e8, e9, e10, e11, e12, e13, e14⟩ := h8 t ht
  refine ⟨d, m, v, y, e1, e2, e3, e4, e5, e6, e7, e8, e9, e10, e11, fun q => ?_, e13, e14⟩
  obtain ⟨b, r, f1, f2, f3, f4, f5⟩ := e12 q
  have hso := SO.of h8 t (by omega)
  obtain ⟨-, d', n', g1, g2, g3, -, g4, g5⟩ := SO.mem hso b (by rw [f1]; exact List.mem_cons_self)
  have ed : d' = 4 := (nI_eq (by omega) (by omega)).mp (g1.symm.trans f3)
  have en' : n' = m := (nI_eq (by omega) (by omega)).mp (g3.symm.trans f2)
  subst ed
  subst en'
  have hne : n' ≠ n := fun z => by
    rw [z, hk] at g5
    exact absurd g5 (by decide)
  exact ⟨b, r, f1, f2, f3, by rw [pk_un hne]; exact f4, f5⟩
end PRX

theorem BeOk.fill {be : Nat → Int32} : BeOk (fillF be 40 (-1)) := fun i hi => Or.inl (by simp [fillF, hi])
/-- the class's check -/
theorem c_chk {D : va_G} {cI cZ cJ : ClassId} {l : Launch} {ad : Nat → Nat} {tg : Nat → Int32} {fn : Nat → Int32} {ki : Nat → Int32} {nu : Nat → Int32} {fi : Nat → Int32} {se : Nat → Int32} {ju : Nat → Int32} {op : Nat → Int32} {en : Nat} {sm : Nat} {ob : Nat} {be : Nat → Int32} {af : Nat → Int32} {pl : Int32} {rf : Int32} {rp : Int32} {rs : Nat} {ra : Nat} {rb : Int32} {rl : Nat} {le la kd fs sc mi bh oo ie : Nat → Int32} (tn : Nat → Nat) (fb : Nat → Bool) (htb : TBL tn fb tg fn le la) (hPR : PR ki nu fi se ju op en sm ob kd fs sc mi bh oo ie sm ob) (h0 : ob = 0) : KM D (tyL cI cZ cJ) l yX4_check wsX4_check 5 116 [.ref (ad 0)] (wC ad cI cZ tg fn ki nu fi se ju op en sm ob be af pl rf rp rs ra rb rl) (some (.int (nI (crun tn fb ki nu fi se sm en 0 0 (fillF be 40 (-1)) af).1))) (wC ad cI cZ tg fn ki nu fi se ju op en sm ob ((crun tn fb ki nu fi se sm en 0 0 (fillF be 40 (-1)) af).2.2.1) ((crun tn fb ki nu fi se sm en 0 0 (fillF be 40 (-1)) af).2.2.2) ((crun tn fb ki nu fi se sm en 0 0 (fillF be 40 (-1)) af).2.1) rf rp rs ra rb rl) := by
  have H := hPR.2.2.2.2.2.2.2.1
  exact c_check tn fb (Jc nu ki) htb.1 htb.2.1 hPR.1 (fun t A be af hte hJ => ⟨(Jc.step (fb := fb) htb.tn H hte hJ).1, (Jc.step (fb := fb) htb.tn H hte hJ).2.1⟩) (fun t A be af hJ => ⟨hJ.1.1, hJ.1.le⟩) h0 ⟨Okh.zero, trivial, BeOk.fill⟩
theorem c_chkB {ki nu fi se ju op : Nat → Int32} {en sm ob : Nat} {be af tg fn : Nat → Int32} {le la kd fs sc mi bh oo ie : Nat → Int32} (tn : Nat → Nat) (fb : Nat → Bool) (htb : TBL tn fb tg fn le la) (hPR : PR ki nu fi se ju op en sm ob kd fs sc mi bh oo ie sm ob) (h0 : ob = 0) : BeOk (crun tn fb ki nu fi se sm en 0 0 (fillF be 40 (-1)) af).2.2.1 :=
  crun_ok htb.tn hPR.2.2.2.2.2.2.2.1 sm en 0 0 _ _ (by omega) ⟨Okh.zero, trivial, BeOk.fill⟩
/-- the reference's check -/
theorem m_chk {D : va_G} {cI cZ cJ : ClassId} {l : Launch} {tg fn ki nu fi se ju op be af : Nat → Int32} {en sm ob rs : Nat} {rf rp : Int32} {ad : Nat → Nat} {le la kd fs sc mi bh : Nat → Int32} {oo ie : Nat → Int32} {mp : Int32} {mt mc : Int32} {no lf he pi ot bf ar : Nat → Int32} {md : Nat} (tn : Nat → Nat) (fb : Nat → Bool) (htb : TBL tn fb tg fn le la) (hPR : PR ki nu fi se ju op en sm ob kd fs sc mi bh oo ie sm ob) (h0 : ob = 0) (hno : ∀ j, 4 ≤ j → no j = 0) : KE D (tyL cI cZ cJ) l yX5_check wsX5_check 2 46 [.ref (ad 0)] (wM ad cI cZ le la kd fs sc mi bh sm oo ie ob mp rf rp rs mt mc no lf he pi ot bf ar md) (fun r w' => r = some (.int (nI (crun tn fb ki nu fi se sm en 0 0 (fillF be 40 (-1)) af).1)) ∧ ∃ (he' no' pi' ot' bf' ar' : Nat → Int32) (md' : Nat), HeR he' (crun tn fb ki nu fi se sm en 0 0 (fillF be 40 (-1)) af).2.2.1 ∧ (∀ j, 4 ≤ j → no' j = 0) ∧ w' = wM ad cI cZ le la kd fs sc mi bh sm oo ie ob ((crun tn fb ki nu fi se sm en 0 0 (fillF be 40 (-1)) af).2.1) rf rp rs (nI 0) (nI 1) no' lf he' pi' ot' bf' ar' md') := by
  refine KE.of (cc := cX5_check) (nL := 5) (ret := some .int) (by decide +kernel) rfl (Nat.le_of_ble_eq_true rfl) ?_
  exact mc_begin hno h0 (mchk (ju := ju) tn fb htb.tn htb.2.2.1 htb.2.2.2 hPR.1 hPR.2.1 hPR.2.2.1 rfl hPR.2.2.2.2.2.2.2.1 (hPR.nil h0) hPR.2.2.2.2.2.2.2.2.1 _ en 0 0 (fillF be 40 (-1)) af (fillF he 160 (-2)) pi ot bf ar (nI sm) (by omega) ⟨Okh.zero, trivial, BeOk.fill⟩ HeR.init trivial rfl)
theorem m_chk8 {D : va_G} {cI cZ cJ : ClassId} {l : Launch} {sm ob rs : Nat} {rf rp : Int32} {ad : Nat → Nat} {le la kd fs sc mi bh : Nat → Int32} {oo ie : Nat → Int32} {mp : Int32} {mt mc : Int32} {no lf he pi ot bf ar : Nat → Int32} {md : Nat} (h0 : 0 < ob) (h6 : ob ≤ 6) : KE D (tyL cI cZ cJ) l yX5_check wsX5_check 2 46 [.ref (ad 0)] (wM ad cI cZ le la kd fs sc mi bh sm oo ie ob mp rf rp rs mt mc no lf he pi ot bf ar md) (fun r w' => r = some (.int (nI 8)) ∧ w' = wM ad cI cZ le la kd fs sc mi bh sm oo ie ob (nI sm) rf rp rs (nI 0) (nI 1) no lf (fillF he 160 (-2)) pi ot bf ar md) := by
  refine KE.of (cc := cX5_check) (nL := 5) (ret := some .int) (by decide +kernel) rfl (Nat.le_of_ble_eq_true rfl) ?_
  exact mc_begin8 h0 h6 ⟨rfl, rfl⟩
/-- the class's run -/
theorem c_rp {D : va_G} {cI cZ cJ : ClassId} {l : Launch} {ad : Nat → Nat} {tg : Nat → Int32} {fn : Nat → Int32} {ki : Nat → Int32} {nu : Nat → Int32} {fi : Nat → Int32} {se : Nat → Int32} {ju : Nat → Int32} {op : Nat → Int32} {en : Nat} {sm : Nat} {ob : Nat} {be : Nat → Int32} {af : Nat → Int32} {pl : Int32} {rf : Int32} {rp : Int32} {rs : Nat} {ra : Nat} {rb : Int32} {rl : Nat} {le la kd fs sc mi bh oo ie : Nat → Int32} (tn : Nat → Nat) (fb : Nat → Bool) (htb : TBL tn fb tg fn le la) (hPR : PR ki nu fi se ju op en sm ob kd fs sc mi bh oo ie sm ob) (h0 : ob = 0) (b : Int32) (n : Nat) (hn : n ≤ 32) : ∃ (F : Nat) (rp1 : Int32) (rs1 ra1 : Nat) (rb1 : Int32) (rl1 : Nat), rrun tn fb ki nu fi se ju sm en 1000000 0 0 0 b n = (F, rp1, rs1, ra1, rb1, rl1) ∧ F < 9 ∧ Okh ra1 ∧ KM D (tyL cI cZ cJ) l yX3_runProgram wsX3_runProgram 5 113 [.ref (ad 14), .int b, .int (nI n)] (wC ad cI cZ tg fn ki nu fi se ju op en sm ob be af pl rf rp rs ra rb rl) none (wC ad cI cZ tg fn ki nu fi se ju op en sm ob be af pl (nI F) rp1 rs1 ra1 rb1 rl1) := by
  have H := hPR.2.2.2.2.2.2.2.1
  have hs := hPR.nil h0
  have hju := hPR.2.2.2.2.2.2.2.2.2.1
  have hM := c_runProgram (D := D) (cI := cI) (cZ := cZ) (cJ := cJ) (l := l) (ad := ad) (op := op) (ob := ob) (be := be) (af := af) (pl := pl) (rf := rf) (rp := rp) (rs := rs) (ra := ra) (rb := rb) (rl := rl) (nu := nu) (sm := sm) tn fb (Jr en) htb.1 htb.2.1 hPR.1 (fun t A rs rb rl hte hJ => ⟨(Jr.step (fb := fb) hPR.1 htb.tn H hs hju hte hJ).1, (Jr.step (fb := fb) hPR.1 htb.tn H hs hju hte hJ).2.1.1, fun _ => (Jr.step (fb := fb) hPR.1 htb.tn H hs hju hte hJ).2.2⟩) (fun t A rs rb rl hJ => ⟨Nat.le_trans hJ.1 hPR.1, hJ.2.1.1, hJ.2.1.le⟩) b n ⟨Nat.zero_le _, Okh.zero, hn⟩
  have hk := rrun_ok (nu := nu) (fb := fb) hPR.1 htb.tn H hs hju sm 1000000 0 0 0 b n ⟨Nat.zero_le _, Okh.zero, hn⟩
  revert hM hk
  generalize rrun tn fb ki nu fi se ju sm en 1000000 0 0 0 b n = R
  intro hM hk
  obtain ⟨F, rp1, rs1, ra1, rb1, rl1⟩ := R
  exact ⟨F, rp1, rs1, ra1, rb1, rl1, rfl, hk.2.1, hk.1, hM⟩
/-- the reference's run -/
theorem m_rn {D : va_G} {cI cZ cJ : ClassId} {l : Launch} {tg fn ki nu fi se ju op : Nat → Int32} {en sm ob rs : Nat} {rf rp : Int32} {ad : Nat → Nat} {le la kd fs sc mi bh : Nat → Int32} {oo ie : Nat → Int32} {mp : Int32} {mt mc : Int32} {no lf he pi ot bf ar : Nat → Int32} {md : Nat} (tn : Nat → Nat) (fb : Nat → Bool) (htb : TBL tn fb tg fn le la) (hPR : PR ki nu fi se ju op en sm ob kd fs sc mi bh oo ie sm ob) (h0 : ob = 0) (hno : ∀ j, 4 ≤ j → no j = 0) (hlf : ∀ j, 4 ≤ j → lf j = 0) (b : Int32) (n : Nat) (hn : n ≤ 32) {F : Nat} {rp1 : Int32} {rs1 ra1 : Nat} {rb1 : Int32} {rl1 : Nat} (hR : rrun tn fb ki nu fi se ju sm en 1000000 0 0 0 b n = (F, rp1, rs1, ra1, rb1, rl1)) : KE D (tyL cI cZ cJ) l yX5_run wsX5_run 1 25 [.ref (ad 0), .int b, .int (nI n)] (wM ad cI cZ le la kd fs sc mi bh sm oo ie ob mp rf rp rs mt mc no lf he pi ot bf ar md) (fun r w' => r = some (.int (nI rs1)) ∧ ∃ (no' pi' ot' : Nat → Int32) (md' : Nat), (∀ j, 4 ≤ j → no' j = 0) ∧ w' = wM ad cI cZ le la kd fs sc mi bh sm oo ie ob mp (nI F) rp1 rs1 (if F = 0 then nI 0 else nI 2) mc no' (nowOf ra1) he pi' ot' bf ar md') := by
  refine KE.of (cc := cX5_run) (nL := 8) (ret := some .int) (by decide +kernel) rfl (Nat.le_of_ble_eq_true rfl) ?_
  exact mr_begin b n hn h0 hno (mrun tn fb htb.tn htb.2.2.1 htb.2.2.2 hPR.1 hPR.2.1 hPR.2.2.1 rfl hPR.2.2.2.2.2.2.2.1 (hPR.nil h0) hPR.2.2.2.2.2.2.2.2.1 hlf b n hn (F, rp1, rs1, ra1, rb1, rl1) 3992 0 0 0 0 1000000 0 pi ot (by have := hPR.1; omega) (by omega) (by omega) (by omega) (by omega) Okh.zero trivial (by rw [Nat.zero_min]; exact hR))
theorem m_rnNo {D : va_G} {cI cZ cJ : ClassId} {l : Launch} {sm ob rs : Nat} {rf rp : Int32} {ad : Nat → Nat} {le la kd fs sc mi bh : Nat → Int32} {oo ie : Nat → Int32} {mp : Int32} {mt mc : Int32} {no lf he pi ot bf ar : Nat → Int32} {md : Nat} (b c : Int32) (h6 : ob ≤ 6) (hc : c < 0 ∨ nI 32 < c ∨ 0 < ob) : KE D (tyL cI cZ cJ) l yX5_run wsX5_run 1 25 [.ref (ad 0), .int b, .int c] (wM ad cI cZ le la kd fs sc mi bh sm oo ie ob mp rf rp rs mt mc no lf he pi ot bf ar md) (fun r w' => r = some (.int (nI 0)) ∧ w' = wM ad cI cZ le la kd fs sc mi bh sm oo ie ob mp rf rp rs (nI 1) mc no lf he pi ot bf ar md) := by
  refine KE.of (cc := cX5_run) (nL := 8) (ret := some .int) (by decide +kernel) rfl (Nat.le_of_ble_eq_true rfl) ?_
  exact mr_no b c h6 hc ⟨rfl, rfl⟩
