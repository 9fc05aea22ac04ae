/-- the bit that is taken as number tk (from 0) of n -/
def mbit (b : Int32) (n tk : Nat) : Bool := decide (tk < n) && decide (b >>> (nI tk &&& 31) &&& nI 1 = nI 1)

set_option maxRecDepth 100000 in
set_option maxHeartbeats 4000000 in
theorem mr_pre0 {D : va_G} {cI cZ cJ : ClassId} {l : Launch} {ad : Nat → Nat} {le : Nat → Int32} {la : Nat → Int32} {kd : Nat → Int32} {fs : Nat → Int32} {sc : Nat → Int32} {mi : Nat → Int32} {bh : Nat → Int32} {mz : Nat} {oo : Nat → Int32} {ie : Nat → Int32} {mo : Nat} {mp : Int32} {mq : Int32} {ms : Nat} {mt : Int32} {mc : Int32} {no : Nat → Int32} {lf : Nat → Int32} {he : Nat → Int32} {pi : Nat → Int32} {ot : Nat → Int32} {bf : Nat → Int32} {ar : Nat → Int32} {md : Nat} (b : Int32) (n tk p ro : Nat) (hz : mz ≤ 40) (hro : ro < 5000) (hp : p < mz) (hmd : md = 0) {w0 : va_W} {Pr : Option Value → va_W → Prop} (h : V (xN D (tyL cI cZ cJ) l 1 25 w0 Pr) (cX5_run, wsX5_run, yX5_run.cls, 8, (some .int), yX5_run.name) 0 0 (wM ad cI cZ le la kd fs sc mi bh mz oo ie mo mp (nI 0) mq ms mt mc no lf he pi ot bf ar md) 152 [(0, .ref (ad 0)), (1, .int b), (2, .int (nI n)), (3, .int (nI tk)), (4, .int (nI p)), (5, .int (nI ro)), (6, .int (-1))] []) : V (xN D (tyL cI cZ cJ) l 1 25 w0 Pr) (cX5_run, wsX5_run, yX5_run.cls, 8, (some .int), yX5_run.name) 0 0 (wM ad cI cZ le la kd fs sc mi bh mz oo ie mo mp (nI 0) mq ms mt mc no lf he pi ot bf ar md) 51 [(0, .ref (ad 0)), (1, .int b), (2, .int (nI n)), (3, .int (nI tk)), (4, .int (nI p)), (5, .int (nI ro))] [] := by
  have i5 : ∀ w ∈ u_ws RX5 TX5 25, w ∈ wsX5_run := by decide +kernel
  refine v_iload 53 rfl dX5_run_51 rfl ?_
  refine v_sipush (v := nI 5000) 56 rfl dX5_run_53 (by decide) ?_
  refine v_icmp_geN (a := ro) (b := 5000) 333 59 rfl dX5_run_56 (by decide) (by omega) (by omega) (fun q => False.elim (by omega)) (fun c56 => ?_)
  refine v_aload_n 60 rfl dX5_run_59 rfl rfl ?_
  refine v_get (ci := 5) (C := RX5) (T := TX5) (N := 25) (v := .int (nI 0)) 63 rfl 0 12 dX5_run_60 rfl (Nat.le_of_ble_eq_true rfl) i5 (by decide +kernel) rfl rfl ?_
  refine v_if_neN (a := 0) 333 66 rfl dX5_run_63 (by decide) (by omega) (fun q => False.elim (by omega)) (fun c63 => ?_)
  refine v_iload 68 rfl dX5_run_66 rfl ?_
  refine v_aload_n 69 rfl dX5_run_68 rfl rfl ?_
  refine v_get (ci := 5) (C := RX5) (T := TX5) (N := 25) (v := .int (nI mz)) 72 rfl 0 7 dX5_run_69 rfl (Nat.le_of_ble_eq_true rfl) i5 (by decide +kernel) rfl rfl ?_
  refine v_icmp_ltN (a := p) (b := mz) 82 75 rfl dX5_run_72 (by decide) (by omega) (by omega) (fun c72 => ?_) (fun q => False.elim (by omega))
  refine v_iconst (v := -1) 83 rfl dX5_run_82 (by decide) ?_
  refine v_istore (lv' := [(6, .int (-1)), (0, .ref (ad 0)), (1, .int b), (2, .int (nI n)), (3, .int (nI tk)), (4, .int (nI p)), (5, .int (nI ro))]) 85 rfl dX5_run_83 (Nat.le_of_ble_eq_true rfl) rfl ?_
  refine v_aload_n 86 rfl dX5_run_85 rfl rfl ?_
  refine v_get (ci := 5) (C := RX5) (T := TX5) (N := 25) (v := .int (nI md)) 89 rfl 0 24 dX5_run_86 rfl (Nat.le_of_ble_eq_true rfl) i5 (by decide +kernel) rfl rfl ?_
  refine v_if_leN (a := md) 152 92 rfl dX5_run_89 (by decide) (by omega) (fun c89 => ?_) (fun q => False.elim (by omega))
  refine v_lv [1, 2, 3, 4, 5, 6, 0] rfl ?_
  exact h

set_option maxRecDepth 100000 in
set_option maxHeartbeats 4000000 in
theorem mr_pre1 {D : va_G} {cI cZ cJ : ClassId} {l : Launch} {ad : Nat → Nat} {le : Nat → Int32} {la : Nat → Int32} {kd : Nat → Int32} {fs : Nat → Int32} {sc : Nat → Int32} {mi : Nat → Int32} {bh : Nat → Int32} {mz : Nat} {oo : Nat → Int32} {ie : Nat → Int32} {mo : Nat} {mp : Int32} {mq : Int32} {ms : Nat} {mt : Int32} {mc : Int32} {no : Nat → Int32} {lf : Nat → Int32} {he : Nat → Int32} {pi : Nat → Int32} {ot : Nat → Int32} {bf : Nat → Int32} {ar : Nat → Int32} {md : Nat} (b : Int32) (n tk p ro : Nat) (hz : mz ≤ 40) (hro : ro < 5000) (k i e : Nat) (hmd : md = k + 1) (hk : k < 6) (hp : pi k = nI i) (hi : i < 40) (hbe : (kd i = nI 4 ∧ ot k = bI false ∧ mi i = nI e) ∨ (kd i = nI 4 ∧ ot k = bI true ∧ bh i = nI e) ∨ (kd i = nI 5 ∧ bh i = nI e)) (hpz : p < mz) (hne : e ≠ p) (he2 : e ≤ 40) {w0 : va_W} {Pr : Option Value → va_W → Prop} (h : V (xN D (tyL cI cZ cJ) l 1 25 w0 Pr) (cX5_run, wsX5_run, yX5_run.cls, 8, (some .int), yX5_run.name) 0 0 (wM ad cI cZ le la kd fs sc mi bh mz oo ie mo mp (nI 0) mq ms mt mc no lf he pi ot bf ar md) 152 [(0, .ref (ad 0)), (1, .int b), (2, .int (nI n)), (3, .int (nI tk)), (4, .int (nI p)), (5, .int (nI ro)), (6, .int (-1))] []) : V (xN D (tyL cI cZ cJ) l 1 25 w0 Pr) (cX5_run, wsX5_run, yX5_run.cls, 8, (some .int), yX5_run.name) 0 0 (wM ad cI cZ le la kd fs sc mi bh mz oo ie mo mp (nI 0) mq ms mt mc no lf he pi ot bf ar md) 51 [(0, .ref (ad 0)), (1, .int b), (2, .int (nI n)), (3, .int (nI tk)), (4, .int (nI p)), (5, .int (nI ro))] [] := by
  have i5 : ∀ w ∈ u_ws RX5 TX5 25, w ∈ wsX5_run := by decide +kernel
  refine v_iload 53 rfl dX5_run_51 rfl ?_
  refine v_sipush (v := nI 5000) 56 rfl dX5_run_53 (by decide) ?_
  refine v_icmp_geN (a := ro) (b := 5000) 333 59 rfl dX5_run_56 (by decide) (by omega) (by omega) (fun q => False.elim (by omega)) (fun c56 => ?_)
  refine v_aload_n 60 rfl dX5_run_59 rfl rfl ?_
  refine v_get (ci := 5) (C := RX5) (T := TX5) (N := 25) (v := .int (nI 0)) 63 rfl 0 12 dX5_run_60 rfl (Nat.le_of_ble_eq_true rfl) i5 (by decide +kernel) rfl rfl ?_
  refine v_if_neN (a := 0) 333 66 rfl dX5_run_63 (by decide) (by omega) (fun q => False.elim (by omega)) (fun c63 => ?_)
  refine v_iload 68 rfl dX5_run_66 rfl ?_
  refine v_aload_n 69 rfl dX5_run_68 rfl rfl ?_
  refine v_get (ci := 5) (C := RX5) (T := TX5) (N := 25) (v := .int (nI mz)) 72 rfl 0 7 dX5_run_69 rfl (Nat.le_of_ble_eq_true rfl) i5 (by decide +kernel) rfl rfl ?_
  refine v_icmp_ltN (a := p) (b := mz) 82 75 rfl dX5_run_72 (by decide) (by omega) (by omega) (fun c72 => ?_) (fun q => False.elim (by omega))
  refine v_iconst (v := -1) 83 rfl dX5_run_82 (by decide) ?_
  refine v_istore (lv' := [(6, .int (-1)), (0, .ref (ad 0)), (1, .int b), (2, .int (nI n)), (3, .int (nI tk)), (4, .int (nI p)), (5, .int (nI ro))]) 85 rfl dX5_run_83 (Nat.le_of_ble_eq_true rfl) rfl ?_
  refine v_aload_n 86 rfl dX5_run_85 rfl rfl ?_
  refine v_get (ci := 5) (C := RX5) (T := TX5) (N := 25) (v := .int (nI md)) 89 rfl 0 24 dX5_run_86 rfl (Nat.le_of_ble_eq_true rfl) i5 (by decide +kernel) rfl rfl ?_
  refine v_if_leN (a := md) 152 92 rfl dX5_run_89 (by decide) (by omega) (fun q => False.elim (by omega)) (fun c89 => ?_)
  refine v_iload 94 rfl dX5_run_92 rfl ?_
  refine v_aload_n 95 rfl dX5_run_94 rfl rfl ?_
  refine v_callF (n := 0) (q0 := 0) (ci := 5) 98 rfl (m_blockEnd k i e hmd hk hp hi hbe) gX5_run_X5_blockEnd rfl (by decide +kernel) rfl ⟨(Nat.le_of_ble_eq_true rfl), (Nat.le_of_ble_eq_true rfl)⟩ rfl (Nat.le_of_ble_eq_true rfl) rfl rfl rfl dX5_run_95 ⟨Nat.zero_le _, Nat.zero_le _⟩ rfl ?_
  refine v_st (st' := [.int (nI e), .int (nI p)]) rfl ?_
  refine v_icmp_neN (a := p) (b := e) 152 101 rfl dX5_run_98 (by decide) (by omega) (by omega) (fun c98 => ?_) (fun q => False.elim (by omega))
  refine v_lv [1, 2, 3, 4, 5, 6, 0] rfl ?_
  exact h

set_option maxRecDepth 100000 in
set_option maxHeartbeats 4000000 in
theorem mr_end1 {D : va_G} {cI cZ cJ : ClassId} {l : Launch} {ad : Nat → Nat} {le : Nat → Int32} {la : Nat → Int32} {kd : Nat → Int32} {fs : Nat → Int32} {sc : Nat → Int32} {mi : Nat → Int32} {bh : Nat → Int32} {mz : Nat} {oo : Nat → Int32} {ie : Nat → Int32} {mo : Nat} {mp : Int32} {mq : Int32} {ms : Nat} {mt : Int32} {mc : Int32} {no : Nat → Int32} {lf : Nat → Int32} {he : Nat → Int32} {pi : Nat → Int32} {ot : Nat → Int32} {bf : Nat → Int32} {ar : Nat → Int32} {md : Nat} (b : Int32) (n tk p ro : Nat) (hz : mz ≤ 40) (hro : ro < 5000) (k i e : Nat) (hmd : md = k + 1) (hk : k < 6) (hp : pi k = nI i) (hi : i < 40) (hbe : (kd i = nI 4 ∧ ot k = bI false ∧ mi i = nI e) ∨ (kd i = nI 4 ∧ ot k = bI true ∧ bh i = nI e) ∨ (kd i = nI 5 ∧ bh i = nI e)) (hpz : p < mz) (hne : e = p) {w0 : va_W} {Pr : Option Value → va_W → Prop} (h : V (xN D (tyL cI cZ cJ) l 1 25 w0 Pr) (cX5_run, wsX5_run, yX5_run.cls, 8, (some .int), yX5_run.name) 0 0 (wM ad cI cZ le la kd fs sc mi bh mz oo ie mo mp (nI 0) mq ms mt mc no lf he pi ot bf ar md) 101 [(0, .ref (ad 0)), (1, .int b), (2, .int (nI n)), (3, .int (nI tk)), (4, .int (nI p)), (5, .int (nI ro)), (6, .int (-1))] []) : V (xN D (tyL cI cZ cJ) l 1 25 w0 Pr) (cX5_run, wsX5_run, yX5_run.cls, 8, (some .int), yX5_run.name) 0 0 (wM ad cI cZ le la kd fs sc mi bh mz oo ie mo mp (nI 0) mq ms mt mc no lf he pi ot bf ar md) 51 [(0, .ref (ad 0)), (1, .int b), (2, .int (nI n)), (3, .int (nI tk)), (4, .int (nI p)), (5, .int (nI ro))] [] := by
  have i5 : ∀ w ∈ u_ws RX5 TX5 25, w ∈ wsX5_run := by decide +kernel
  refine v_iload 53 rfl dX5_run_51 rfl ?_
  refine v_sipush (v := nI 5000) 56 rfl dX5_run_53 (by decide) ?_
  refine v_icmp_geN (a := ro) (b := 5000) 333 59 rfl dX5_run_56 (by decide) (by omega) (by omega) (fun q => False.elim (by omega)) (fun c56 => ?_)
  refine v_aload_n 60 rfl dX5_run_59 rfl rfl ?_
  refine v_get (ci := 5) (C := RX5) (T := TX5) (N := 25) (v := .int (nI 0)) 63 rfl 0 12 dX5_run_60 rfl (Nat.le_of_ble_eq_true rfl) i5 (by decide +kernel) rfl rfl ?_
  refine v_if_neN (a := 0) 333 66 rfl dX5_run_63 (by decide) (by omega) (fun q => False.elim (by omega)) (fun c63 => ?_)
  refine v_iload 68 rfl dX5_run_66 rfl ?_
  refine v_aload_n 69 rfl dX5_run_68 rfl rfl ?_
  refine v_get (ci := 5) (C := RX5) (T := TX5) (N := 25) (v := .int (nI mz)) 72 rfl 0 7 dX5_run_69 rfl (Nat.le_of_ble_eq_true rfl) i5 (by decide +kernel) rfl rfl ?_
  refine v_icmp_ltN (a := p) (b := mz) 82 75 rfl dX5_run_72 (by decide) (by omega) (by omega) (fun c72 => ?_) (fun q => False.elim (by omega))
  refine v_iconst (v := -1) 83 rfl dX5_run_82 (by decide) ?_
  refine v_istore (lv' := [(6, .int (-1)), (0, .ref (ad 0)), (1, .int b), (2, .int (nI n)), (3, .int (nI tk)), (4, .int (nI p)), (5, .int (nI ro))]) 85 rfl dX5_run_83 (Nat.le_of_ble_eq_true rfl) rfl ?_
  refine v_aload_n 86 rfl dX5_run_85 rfl rfl ?_
  refine v_get (ci := 5) (C := RX5) (T := TX5) (N := 25) (v := .int (nI md)) 89 rfl 0 24 dX5_run_86 rfl (Nat.le_of_ble_eq_true rfl) i5 (by decide +kernel) rfl rfl ?_
  refine v_if_leN (a := md) 152 92 rfl dX5_run_89 (by decide) (by omega) (fun q => False.elim (by omega)) (fun c89 => ?_)
  refine v_iload 94 rfl dX5_run_92 rfl ?_
  refine v_aload_n 95 rfl dX5_run_94 rfl rfl ?_
  refine v_callF (n := 0) (q0 := 0) (ci := 5) 98 rfl (m_blockEnd k i e hmd hk hp hi hbe) gX5_run_X5_blockEnd rfl (by decide +kernel) rfl ⟨(Nat.le_of_ble_eq_true rfl), (Nat.le_of_ble_eq_true rfl)⟩ rfl (Nat.le_of_ble_eq_true rfl) rfl rfl rfl dX5_run_95 ⟨Nat.zero_le _, Nat.zero_le _⟩ rfl ?_
  refine v_st (st' := [.int (nI e), .int (nI p)]) rfl ?_
  refine v_icmp_neN (a := p) (b := e) 152 101 rfl dX5_run_98 (by decide) (by omega) (by omega) (fun q => False.elim (by omega)) (fun c98 => ?_)
  refine v_lv [1, 2, 3, 4, 5, 6, 0] rfl ?_
  exact h

set_option maxRecDepth 100000 in
set_option maxHeartbeats 4000000 in
theorem mr_end2 {D : va_G} {cI cZ cJ : ClassId} {l : Launch} {ad : Nat → Nat} {le : Nat → Int32} {la : Nat → Int32} {kd : Nat → Int32} {fs : Nat → Int32} {sc : Nat → Int32} {mi : Nat → Int32} {bh : Nat → Int32} {mz : Nat} {oo : Nat → Int32} {ie : Nat → Int32} {mo : Nat} {mp : Int32} {mq : Int32} {ms : Nat} {mt : Int32} {mc : Int32} {no : Nat → Int32} {lf : Nat → Int32} {he : Nat → Int32} {pi : Nat → Int32} {ot : Nat → Int32} {bf : Nat → Int32} {ar : Nat → Int32} {md : Nat} (b : Int32) (n tk p ro : Nat) (hz : mz ≤ 40) (hro : ro < 5000) (k i e : Nat) (hmd : md = k + 1) (hk : k < 6) (hp : pi k = nI i) (hi : i < 40) (hbe : (kd i = nI 4 ∧ ot k = bI false ∧ mi i = nI e) ∨ (kd i = nI 4 ∧ ot k = bI true ∧ bh i = nI e) ∨ (kd i = nI 5 ∧ bh i = nI e)) (hpz : p = mz) (hne : e = p) {w0 : va_W} {Pr : Option Value → va_W → Prop} (h : V (xN D (tyL cI cZ cJ) l 1 25 w0 Pr) (cX5_run, wsX5_run, yX5_run.cls, 8, (some .int), yX5_run.name) 0 0 (wM ad cI cZ le la kd fs sc mi bh mz oo ie mo mp (nI 0) mq ms mt mc no lf he pi ot bf ar md) 101 [(0, .ref (ad 0)), (1, .int b), (2, .int (nI n)), (3, .int (nI tk)), (4, .int (nI p)), (5, .int (nI ro)), (6, .int (-1))] []) : V (xN D (tyL cI cZ cJ) l 1 25 w0 Pr) (cX5_run, wsX5_run, yX5_run.cls, 8, (some .int), yX5_run.name) 0 0 (wM ad cI cZ le la kd fs sc mi bh mz oo ie mo mp (nI 0) mq ms mt mc no lf he pi ot bf ar md) 51 [(0, .ref (ad 0)), (1, .int b), (2, .int (nI n)), (3, .int (nI tk)), (4, .int (nI p)), (5, .int (nI ro))] [] := by
  have i5 : ∀ w ∈ u_ws RX5 TX5 25, w ∈ wsX5_run := by decide +kernel
  refine v_iload 53 rfl dX5_run_51 rfl ?_
  refine v_sipush (v := nI 5000) 56 rfl dX5_run_53 (by decide) ?_
  refine v_icmp_geN (a := ro) (b := 5000) 333 59 rfl dX5_run_56 (by decide) (by omega) (by omega) (fun q => False.elim (by omega)) (fun c56 => ?_)
  refine v_aload_n 60 rfl dX5_run_59 rfl rfl ?_
  refine v_get (ci := 5) (C := RX5) (T := TX5) (N := 25) (v := .int (nI 0)) 63 rfl 0 12 dX5_run_60 rfl (Nat.le_of_ble_eq_true rfl) i5 (by decide +kernel) rfl rfl ?_
  refine v_if_neN (a := 0) 333 66 rfl dX5_run_63 (by decide) (by omega) (fun q => False.elim (by omega)) (fun c63 => ?_)
  refine v_iload 68 rfl dX5_run_66 rfl ?_
  refine v_aload_n 69 rfl dX5_run_68 rfl rfl ?_
  refine v_get (ci := 5) (C := RX5) (T := TX5) (N := 25) (v := .int (nI mz)) 72 rfl 0 7 dX5_run_69 rfl (Nat.le_of_ble_eq_true rfl) i5 (by decide +kernel) rfl rfl ?_
  refine v_icmp_ltN (a := p) (b := mz) 82 75 rfl dX5_run_72 (by decide) (by omega) (by omega) (fun q => False.elim (by omega)) (fun c72 => ?_)
  refine v_aload_n 76 rfl dX5_run_75 rfl rfl ?_
  refine v_get (ci := 5) (C := RX5) (T := TX5) (N := 25) (v := .int (nI md)) 79 rfl 0 24 dX5_run_76 rfl (Nat.le_of_ble_eq_true rfl) i5 (by decide +kernel) rfl rfl ?_
  refine v_if_leN (a := md) 333 82 rfl dX5_run_79 (by decide) (by omega) (fun q => False.elim (by omega)) (fun c79 => ?_)
  refine v_iconst (v := -1) 83 rfl dX5_run_82 (by decide) ?_
  refine v_istore (lv' := [(6, .int (-1)), (0, .ref (ad 0)), (1, .int b), (2, .int (nI n)), (3, .int (nI tk)), (4, .int (nI p)), (5, .int (nI ro))]) 85 rfl dX5_run_83 (Nat.le_of_ble_eq_true rfl) rfl ?_
  refine v_aload_n 86 rfl dX5_run_85 rfl rfl ?_
  refine v_get (ci := 5) (C := RX5) (T := TX5) (N := 25) (v := .int (nI md)) 89 rfl 0 24 dX5_run_86 rfl (Nat.le_of_ble_eq_true rfl) i5 (by decide +kernel) rfl rfl ?_
  refine v_if_leN (a := md) 152 92 rfl dX5_run_89 (by decide) (by omega) (fun q => False.elim (by omega)) (fun c89 => ?_)
  refine v_iload 94 rfl dX5_run_92 rfl ?_
  refine v_aload_n 95 rfl dX5_run_94 rfl rfl ?_
  refine v_callF (n := 0) (q0 := 0) (ci := 5) 98 rfl (m_blockEnd k i e hmd hk hp hi hbe) gX5_run_X5_blockEnd rfl (by decide +kernel) rfl ⟨(Nat.le_of_ble_eq_true rfl), (Nat.le_of_ble_eq_true rfl)⟩ rfl (Nat.le_of_ble_eq_true rfl) rfl rfl rfl dX5_run_95 ⟨Nat.zero_le _, Nat.zero_le _⟩ rfl ?_
  refine v_st (st' := [.int (nI e), .int (nI p)]) rfl ?_
  refine v_icmp_neN (a := p) (b := e) 152 101 rfl dX5_run_98 (by decide) (by omega) (by omega) (fun q => False.elim (by omega)) (fun c98 => ?_)
  refine v_lv [1, 2, 3, 4, 5, 6, 0] rfl ?_
  exact h

set_option maxRecDepth 100000 in
set_option maxHeartbeats 4000000 in
theorem mr_simple0 {D : va_G} {cI cZ cJ : ClassId} {l : Launch} {ad : Nat → Nat} {le : Nat → Int32} {la : Nat → Int32} {kd : Nat → Int32} {fs : Nat → Int32} {sc : Nat → Int32} {mi : Nat → Int32} {bh : Nat → Int32} {mz : Nat} {oo : Nat → Int32} {ie : Nat → Int32} {mo : Nat} {mp : Int32} {mq : Int32} {ms : Nat} {mt : Int32} {mc : Int32} {lf : Nat → Int32} {he : Nat → Int32} {pi : Nat → Int32} {ot : Nat → Int32} {bf : Nat → Int32} {ar : Nat → Int32} {md : Nat} (tn : Nat → Nat) (fb : Nat → Bool) (b : Int32) (n tk p ro d v x A : Nat) (hp : p < 40) (hv : v < 4) (hx : x < 4) (hA : Okh A) (hf : fs p = nI v) (hs : sc p = nI x) (hk : kd p = nI d) (hd : d < 4) (hx3 : d = 0 → x < 3) (hle : ∀ p s e : Nat, p < 3 → s < 5 → e < 4 → le (20 * p + 4 * s + e) = nI (tn ((8 * p + s) * 4 + e)) ∧ tn ((8 * p + s) * 4 + e) ≤ 5) (hla : ∀ p s : Nat, p < 3 → s < 5 → la (5 * p + s) = bI (fb (8 * p + s))) (h0 : (sim tn fb d v x A).1 = 0) {w0 : va_W} {Pr : Option Value → va_W → Prop} (h : V (xN D (tyL cI cZ cJ) l 1 25 w0 Pr) (cX5_run, wsX5_run, yX5_run.cls, 8, (some .int), yX5_run.name) 0 0 (wM ad cI cZ le la kd fs sc mi bh mz oo ie mo mp (nI 0) mq (ms + 1) mt mc (nowOf (sim tn fb d v x A).2) lf he pi ot bf ar md) 51 [(0, .ref (ad 0)), (1, .int b), (2, .int (nI n)), (3, .int (nI tk)), (4, .int (nI (p + 1))), (5, .int (nI (ro + 1)))] []) : V (xN D (tyL cI cZ cJ) l 1 25 w0 Pr) (cX5_run, wsX5_run, yX5_run.cls, 8, (some .int), yX5_run.name) 0 0 (wM ad cI cZ le la kd fs sc mi bh mz oo ie mo mp (nI 0) mq ms mt mc (nowOf A) lf he pi ot bf ar md) 152 [(0, .ref (ad 0)), (1, .int b), (2, .int (nI n)), (3, .int (nI tk)), (4, .int (nI p)), (5, .int (nI ro)), (6, .int (-1))] [] := by
  have i5 : ∀ w ∈ u_ws RX5 TX5 25, w ∈ wsX5_run := by decide +kernel
  refine v_aload_n 153 rfl dX5_run_152 rfl rfl ?_
  refine v_get (ci := 5) (C := RX5) (T := TX5) (N := 25) (v := .ref (ad 3)) 156 rfl 0 2 dX5_run_153 rfl (Nat.le_of_ble_eq_true rfl) i5 (by decide +kernel) rfl rfl ?_
  refine v_iload 158 rfl dX5_run_156 rfl ?_
  refine v_iald (j := p) (v := nI d) 159 rfl 3 0 dX5_run_158 rfl rfl (by omega) (by decide) hk ?_
  refine v_iconst (v := nI 4) 160 rfl dX5_run_159 (by decide) ?_
  refine v_icmp_ltN (a := d) (b := 4) 170 163 rfl dX5_run_160 (by decide) (by omega) (by omega) (fun c160 => ?_) (fun q => False.elim (by omega))
  refine v_aload_n 171 rfl dX5_run_170 rfl rfl ?_
  refine v_aload_n 172 rfl dX5_run_171 rfl rfl ?_
  refine v_iload 174 rfl dX5_run_172 rfl ?_
  refine v_callF (n := 1) (q0 := 0) (ci := 5) 177 rfl (m_work tn fb p d v x A (by omega) hv hx hA hf hs hk hd hx3 hle hla) gX5_run_X5_work rfl (by decide +kernel) rfl ⟨(Nat.le_of_ble_eq_true rfl), (Nat.le_of_ble_eq_true rfl)⟩ rfl (Nat.le_of_ble_eq_true rfl) rfl rfl rfl dX5_run_174 ⟨Nat.zero_le _, Nat.zero_le _⟩ rfl ?_
  refine v_st (st' := [.int (nI ((sim tn fb d v x A).1)), .ref (ad 0)]) rfl ?_
  refine v_top (v' := nI 0) (by rw [h0]) ?_
  refine v_put (ci := 5) (C := RX5) (T := TX5) (ty0 := tyX5) (N := 25) (ty := .int) (w' := wM ad cI cZ le la kd fs sc mi bh mz oo ie mo mp (nI 0) mq ms mt mc (nowOf (sim tn fb d v x A).2) lf he pi ot bf ar md) 180 rfl 0 12 dX5_run_177 rfl (Nat.le_of_ble_eq_true rfl) i5 tyX5_ok nmX5 (by decide +kernel) rfl (by decide +kernel) rfl rfl rfl (Nat.le_of_ble_eq_true rfl) rfl ?_
  refine v_aload_n 181 rfl dX5_run_180 rfl rfl ?_
  refine v_get (ci := 5) (C := RX5) (T := TX5) (N := 25) (v := .int (nI 0)) 184 rfl 0 12 dX5_run_181 rfl (Nat.le_of_ble_eq_true rfl) i5 (by decide +kernel) rfl rfl ?_
  refine v_if_neN (a := 0) 200 187 rfl dX5_run_184 (by decide) (by omega) (fun q => False.elim (by omega)) (fun c184 => ?_)
  refine v_aload_n 188 rfl dX5_run_187 rfl rfl ?_
  refine v_aload_n 189 rfl dX5_run_188 rfl rfl ?_
  refine v_get (ci := 5) (C := RX5) (T := TX5) (N := 25) (v := .int (nI ms)) 192 rfl 0 14 dX5_run_189 rfl (Nat.le_of_ble_eq_true rfl) i5 (by decide +kernel) rfl rfl ?_
  refine v_iconst (v := nI 1) 193 rfl dX5_run_192 (by decide) ?_
  refine v_iaddN (a := ms) (b := 1) 194 rfl dX5_run_193 ?_
  refine v_put (ci := 5) (C := RX5) (T := TX5) (ty0 := tyX5) (N := 25) (ty := .int) (w' := wM ad cI cZ le la kd fs sc mi bh mz oo ie mo mp (nI 0) mq (ms + 1) mt mc (nowOf (sim tn fb d v x A).2) lf he pi ot bf ar md) 197 rfl 0 14 dX5_run_194 rfl (Nat.le_of_ble_eq_true rfl) i5 tyX5_ok nmX5 (by decide +kernel) rfl (by decide +kernel) rfl rfl rfl (Nat.le_of_ble_eq_true rfl) rfl ?_
  refine v_goto 206 dX5_run_197 (by decide) ?_
  refine v_iload 208 rfl dX5_run_206 rfl ?_
  refine v_iconst (v := nI 1) 209 rfl dX5_run_208 (by decide) ?_
  refine v_iaddN (a := p) (b := 1) 210 rfl dX5_run_209 ?_
  refine v_istore (lv' := [(4, .int (nI (p + 1))), (0, .ref (ad 0)), (1, .int b), (2, .int (nI n)), (3, .int (nI tk)), (5, .int (nI ro)), (6, .int (-1))]) 212 rfl dX5_run_210 (Nat.le_of_ble_eq_true rfl) rfl ?_
  refine v_iload 214 rfl dX5_run_212 rfl ?_
  refine v_if_lt 327 217 rfl dX5_run_214 (by decide) (fun c214 => ?_) (fun q => False.elim (by exact absurd (by decide) q))
  refine v_iinc (v := nI (ro + 1)) (lv' := [(5, .int (nI (ro + 1))), (4, .int (nI (p + 1))), (0, .ref (ad 0)), (1, .int b), (2, .int (nI n)), (3, .int (nI tk)), (6, .int (-1))]) 330 rfl dX5_run_327 5 rfl (nI_add _ _) (Nat.le_of_ble_eq_true rfl) rfl ?_
  refine v_goto 51 dX5_run_330 (by decide) ?_
  refine v_lv [2, 3, 4, 5, 1, 0] rfl ?_
  exact h

set_option maxRecDepth 100000 in
set_option maxHeartbeats 4000000 in
theorem mr_simpleF {D : va_G} {cI cZ cJ : ClassId} {l : Launch} {ad : Nat → Nat} {le : Nat → Int32} {la : Nat → Int32} {kd : Nat → Int32} {fs : Nat → Int32} {sc : Nat → Int32} {mi : Nat → Int32} {bh : Nat → Int32} {mz : Nat} {oo : Nat → Int32} {ie : Nat → Int32} {mo : Nat} {mp : Int32} {mq : Int32} {ms : Nat} {mt : Int32} {mc : Int32} {lf : Nat → Int32} {he : Nat → Int32} {pi : Nat → Int32} {ot : Nat → Int32} {bf : Nat → Int32} {ar : Nat → Int32} {md : Nat} (tn : Nat → Nat) (fb : Nat → Bool) (b : Int32) (n tk p ro d v x A : Nat) (hp : p < 40) (hv : v < 4) (hx : x < 4) (hA : Okh A) (hf : fs p = nI v) (hs : sc p = nI x) (hk : kd p = nI d) (hd : d < 4) (hx3 : d = 0 → x < 3) (hle : ∀ p s e : Nat, p < 3 → s < 5 → e < 4 → le (20 * p + 4 * s + e) = nI (tn ((8 * p + s) * 4 + e)) ∧ tn ((8 * p + s) * 4 + e) ≤ 5) (hla : ∀ p s : Nat, p < 3 → s < 5 → la (5 * p + s) = bI (fb (8 * p + s))) (h0 : 0 < (sim tn fb d v x A).1) {w0 : va_W} {Pr : Option Value → va_W → Prop} (h : V (xN D (tyL cI cZ cJ) l 1 25 w0 Pr) (cX5_run, wsX5_run, yX5_run.cls, 8, (some .int), yX5_run.name) 0 0 (wM ad cI cZ le la kd fs sc mi bh mz oo ie mo mp (nI ((sim tn fb d v x A).1)) (nI p) ms mt mc (nowOf (sim tn fb d v x A).2) lf he pi ot bf ar md) 51 [(0, .ref (ad 0)), (1, .int b), (2, .int (nI n)), (3, .int (nI tk)), (4, .int (nI (p + 1))), (5, .int (nI (ro + 1)))] []) : V (xN D (tyL cI cZ cJ) l 1 25 w0 Pr) (cX5_run, wsX5_run, yX5_run.cls, 8, (some .int), yX5_run.name) 0 0 (wM ad cI cZ le la kd fs sc mi bh mz oo ie mo mp (nI 0) mq ms mt mc (nowOf A) lf he pi ot bf ar md) 152 [(0, .ref (ad 0)), (1, .int b), (2, .int (nI n)), (3, .int (nI tk)), (4, .int (nI p)), (5, .int (nI ro)), (6, .int (-1))] [] := by
  have i5 : ∀ w ∈ u_ws RX5 TX5 25, w ∈ wsX5_run := by decide +kernel
  refine v_aload_n 153 rfl dX5_run_152 rfl rfl ?_
  refine v_get (ci := 5) (C := RX5) (T := TX5) (N := 25) (v := .ref (ad 3)) 156 rfl 0 2 dX5_run_153 rfl (Nat.le_of_ble_eq_true rfl) i5 (by decide +kernel) rfl rfl ?_
  refine v_iload 158 rfl dX5_run_156 rfl ?_
  refine v_iald (j := p) (v := nI d) 159 rfl 3 0 dX5_run_158 rfl rfl (by omega) (by decide) hk ?_
  refine v_iconst (v := nI 4) 160 rfl dX5_run_159 (by decide) ?_
  refine v_icmp_ltN (a := d) (b := 4) 170 163 rfl dX5_run_160 (by decide) (by omega) (by omega) (fun c160 => ?_) (fun q => False.elim (by omega))
  refine v_aload_n 171 rfl dX5_run_170 rfl rfl ?_
  refine v_aload_n 172 rfl dX5_run_171 rfl rfl ?_
  refine v_iload 174 rfl dX5_run_172 rfl ?_
  refine v_callF (n := 1) (q0 := 0) (ci := 5) 177 rfl (m_work tn fb p d v x A (by omega) hv hx hA hf hs hk hd hx3 hle hla) gX5_run_X5_work rfl (by decide +kernel) rfl ⟨(Nat.le_of_ble_eq_true rfl), (Nat.le_of_ble_eq_true rfl)⟩ rfl (Nat.le_of_ble_eq_true rfl) rfl rfl rfl dX5_run_174 ⟨Nat.zero_le _, Nat.zero_le _⟩ rfl ?_
  refine v_st (st' := [.int (nI ((sim tn fb d v x A).1)), .ref (ad 0)]) rfl ?_
  refine v_put (ci := 5) (C := RX5) (T := TX5) (ty0 := tyX5) (N := 25) (ty := .int) (w' := wM ad cI cZ le la kd fs sc mi bh mz oo ie mo mp (nI ((sim tn fb d v x A).1)) mq ms mt mc (nowOf (sim tn fb d v x A).2) lf he pi ot bf ar md) 180 rfl 0 12 dX5_run_177 rfl (Nat.le_of_ble_eq_true rfl) i5 tyX5_ok nmX5 (by decide +kernel) rfl (by decide +kernel) rfl rfl rfl (Nat.le_of_ble_eq_true rfl) rfl ?_
  refine v_aload_n 181 rfl dX5_run_180 rfl rfl ?_
  refine v_get (ci := 5) (C := RX5) (T := TX5) (N := 25) (v := .int (nI ((sim tn fb d v x A).1))) 184 rfl 0 12 dX5_run_181 rfl (Nat.le_of_ble_eq_true rfl) i5 (by decide +kernel) rfl rfl ?_
  refine v_if_neN (a := (sim tn fb d v x A).1) 200 187 rfl dX5_run_184 (by decide) (by have := sim_lt tn fb d v x A; omega) (fun c184 => ?_) (fun q => False.elim (by omega))
  refine v_aload_n 201 rfl dX5_run_200 rfl rfl ?_
  refine v_iload 203 rfl dX5_run_201 rfl ?_
  refine v_put (ci := 5) (C := RX5) (T := TX5) (ty0 := tyX5) (N := 25) (ty := .int) (w' := wM ad cI cZ le la kd fs sc mi bh mz oo ie mo mp (nI ((sim tn fb d v x A).1)) (nI p) ms mt mc (nowOf (sim tn fb d v x A).2) lf he pi ot bf ar md) 206 rfl 0 13 dX5_run_203 rfl (Nat.le_of_ble_eq_true rfl) i5 tyX5_ok nmX5 (by decide +kernel) rfl (by decide +kernel) rfl rfl rfl (Nat.le_of_ble_eq_true rfl) rfl ?_
  refine v_iload 208 rfl dX5_run_206 rfl ?_
  refine v_iconst (v := nI 1) 209 rfl dX5_run_208 (by decide) ?_
  refine v_iaddN (a := p) (b := 1) 210 rfl dX5_run_209 ?_
  refine v_istore (lv' := [(4, .int (nI (p + 1))), (0, .ref (ad 0)), (1, .int b), (2, .int (nI n)), (3, .int (nI tk)), (5, .int (nI ro)), (6, .int (-1))]) 212 rfl dX5_run_210 (Nat.le_of_ble_eq_true rfl) rfl ?_
  refine v_iload 214 rfl dX5_run_212 rfl ?_
  refine v_if_lt 327 217 rfl dX5_run_214 (by decide) (fun c214 => ?_) (fun q => False.elim (by exact absurd (by decide) q))
  refine v_iinc (v := nI (ro + 1)) (lv' := [(5, .int (nI (ro + 1))), (4, .int (nI (p + 1))), (0, .ref (ad 0)), (1, .int b), (2, .int (nI n)), (3, .int (nI tk)), (6, .int (-1))]) 330 rfl dX5_run_327 5 rfl (nI_add _ _) (Nat.le_of_ble_eq_true rfl) rfl ?_
  refine v_goto 51 dX5_run_330 (by decide) ?_
  refine v_lv [2, 3, 4, 5, 1, 0] rfl ?_
  exact h

set_option maxRecDepth 100000 in
set_option maxHeartbeats 4000000 in
theorem mr_open {D : va_G} {cI cZ cJ : ClassId} {l : Launch} {ad : Nat → Nat} {le : Nat → Int32} {la : Nat → Int32} {kd : Nat → Int32} {fs : Nat → Int32} {sc : Nat → Int32} {mi : Nat → Int32} {bh : Nat → Int32} {mz : Nat} {oo : Nat → Int32} {ie : Nat → Int32} {mo : Nat} {mp : Int32} {mf : Int32} {mq : Int32} {ms : Nat} {mt : Int32} {mc : Int32} {no : Nat → Int32} {lf : Nat → Int32} {he : Nat → Int32} {pi : Nat → Int32} {ot : Nat → Int32} {bf : Nat → Int32} {ar : Nat → Int32} {md : Nat} (b : Int32) (n tk p ro d : Nat) (hp : p < 40) (hk : kd p = nI d) (hd : 4 ≤ d) (hd6 : d < 6) {w0 : va_W} {Pr : Option Value → va_W → Prop} (h : V (xN D (tyL cI cZ cJ) l 1 25 w0 Pr) (cX5_run, wsX5_run, yX5_run.cls, 8, (some .int), yX5_run.name) 0 0 (wM ad cI cZ le la kd fs sc mi bh mz oo ie mo mp mf mq ms mt mc no lf he pi ot bf ar md) 212 [(0, .ref (ad 0)), (1, .int b), (2, .int (nI n)), (3, .int (nI tk)), (4, .int (nI p)), (5, .int (nI ro)), (6, .int (nI p))] []) : V (xN D (tyL cI cZ cJ) l 1 25 w0 Pr) (cX5_run, wsX5_run, yX5_run.cls, 8, (some .int), yX5_run.name) 0 0 (wM ad cI cZ le la kd fs sc mi bh mz oo ie mo mp mf mq ms mt mc no lf he pi ot bf ar md) 152 [(0, .ref (ad 0)), (1, .int b), (2, .int (nI n)), (3, .int (nI tk)), (4, .int (nI p)), (5, .int (nI ro)), (6, .int (-1))] [] := by
  have i5 : ∀ w ∈ u_ws RX5 TX5 25, w ∈ wsX5_run := by decide +kernel
  refine v_aload_n 153 rfl dX5_run_152 rfl rfl ?_
  refine v_get (ci := 5) (C := RX5) (T := TX5) (N := 25) (v := .ref (ad 3)) 156 rfl 0 2 dX5_run_153 rfl (Nat.le_of_ble_eq_true rfl) i5 (by decide +kernel) rfl rfl ?_
  refine v_iload 158 rfl dX5_run_156 rfl ?_
  refine v_iald (j := p) (v := nI d) 159 rfl 3 0 dX5_run_158 rfl rfl (by omega) (by decide) hk ?_
  refine v_iconst (v := nI 4) 160 rfl dX5_run_159 (by decide) ?_
  refine v_icmp_ltN (a := d) (b := 4) 170 163 rfl dX5_run_160 (by decide) (by omega) (by omega) (fun q => False.elim (by omega)) (fun c160 => ?_)
  refine v_iload 165 rfl dX5_run_163 rfl ?_
  refine v_istore (lv' := [(6, .int (nI p)), (0, .ref (ad 0)), (1, .int b), (2, .int (nI n)), (3, .int (nI tk)), (4, .int (nI p)), (5, .int (nI ro))]) 167 rfl dX5_run_165 (Nat.le_of_ble_eq_true rfl) rfl ?_
  refine v_goto 212 dX5_run_167 (by decide) ?_
  refine v_lv [1, 2, 3, 4, 5, 6, 0] rfl ?_
  exact h

set_option maxRecDepth 100000 in
set_option maxHeartbeats 4000000 in
theorem mr_ask1 {D : va_G} {cI cZ cJ : ClassId} {l : Launch} {ad : Nat → Nat} {le : Nat → Int32} {la : Nat → Int32} {kd : Nat → Int32} {fs : Nat → Int32} {sc : Nat → Int32} {mi : Nat → Int32} {bh : Nat → Int32} {mz : Nat} {oo : Nat → Int32} {ie : Nat → Int32} {mo : Nat} {mp : Int32} {mf : Int32} {mq : Int32} {ms : Nat} {mt : Int32} {mc : Int32} {no : Nat → Int32} {lf : Nat → Int32} {he : Nat → Int32} {pi : Nat → Int32} {ot : Nat → Int32} {bf : Nat → Int32} {ar : Nat → Int32} {md : Nat} (b : Int32) (n tk p ro a : Nat) (ha : a < 40) (hn : n ≤ 32) (htk : tk < 100000) (hmd : md < 6) (hbit : mbit b n tk = true) {w0 : va_W} {Pr : Option Value → va_W → Prop} (h : V (xN D (tyL cI cZ cJ) l 1 25 w0 Pr) (cX5_run, wsX5_run, yX5_run.cls, 8, (some .int), yX5_run.name) 0 0 (wM ad cI cZ le la kd fs sc mi bh mz oo ie mo mp mf mq (ms + 1) mt mc no lf he (upd pi md (nI a)) (upd ot md (bI false)) bf ar (md + 1)) 51 [(0, .ref (ad 0)), (1, .int b), (2, .int (nI n)), (3, .int (nI (tk + 1))), (4, .int (nI (a + 1))), (5, .int (nI (ro + 1)))] []) : V (xN D (tyL cI cZ cJ) l 1 25 w0 Pr) (cX5_run, wsX5_run, yX5_run.cls, 8, (some .int), yX5_run.name) 0 0 (wM ad cI cZ le la kd fs sc mi bh mz oo ie mo mp mf mq ms mt mc no lf he pi ot bf ar md) 212 [(0, .ref (ad 0)), (1, .int b), (2, .int (nI n)), (3, .int (nI tk)), (4, .int (nI p)), (5, .int (nI ro)), (6, .int (nI a))] [] := by
  have i5 : ∀ w ∈ u_ws RX5 TX5 25, w ∈ wsX5_run := by decide +kernel
  refine v_iload 214 rfl dX5_run_212 rfl ?_
  refine v_if_ltN (a := a) 327 217 rfl dX5_run_214 (by decide) (by omega) ?_
  refine v_iload_n 218 rfl dX5_run_217 rfl rfl ?_
  refine v_iload_n 219 rfl dX5_run_218 rfl rfl ?_
  refine v_icmp_geN (a := tk) (b := n) 235 222 rfl dX5_run_219 (by decide) (by omega) (by omega) (fun c219 => ?_) (fun c219 => ?_)
  · exact absurd hbit (by simp [mbit, Nat.not_lt.mpr, *])
  · refine v_iload_n 223 rfl dX5_run_222 rfl rfl ?_
    refine v_iload_n 224 rfl dX5_run_223 rfl rfl ?_
    refine v_ishr 225 rfl dX5_run_224 ?_
    refine v_iconst (v := nI 1) 226 rfl dX5_run_225 (by decide) ?_
    refine v_iand 227 rfl dX5_run_226 ?_
    refine v_iconst (v := nI 1) 228 rfl dX5_run_227 (by decide) ?_
    refine v_icmp_ne 235 231 rfl dX5_run_228 (by decide) (fun c228 => ?_) (fun c228 => ?_)
    · exact absurd hbit (by simp [mbit, Nat.not_lt.mpr, *])
    · refine v_iconst (v := bI true) 232 rfl dX5_run_231 (by decide) ?_
      refine v_goto 236 dX5_run_232 (by decide) ?_
      refine v_istore (lv' := [(7, .int (bI true)), (0, .ref (ad 0)), (1, .int b), (2, .int (nI n)), (3, .int (nI tk)), (4, .int (nI p)), (5, .int (nI ro)), (6, .int (nI a))]) 238 rfl dX5_run_236 (Nat.le_of_ble_eq_true rfl) rfl ?_
      refine v_iload_n 239 rfl dX5_run_238 rfl rfl ?_
      refine v_iconst (v := nI 1) 240 rfl dX5_run_239 (by decide) ?_
      refine v_iaddN (a := tk) (b := 1) 241 rfl dX5_run_240 ?_
      refine v_istore_n (lv' := [(3, .int (nI (tk + 1))), (7, .int (bI true)), (0, .ref (ad 0)), (1, .int b), (2, .int (nI n)), (4, .int (nI p)), (5, .int (nI ro)), (6, .int (nI a))]) 242 rfl dX5_run_241 rfl (Nat.le_of_ble_eq_true rfl) rfl ?_
      refine v_aload_n 243 rfl dX5_run_242 rfl rfl ?_
      refine v_aload_n 244 rfl dX5_run_243 rfl rfl ?_
      refine v_get (ci := 5) (C := RX5) (T := TX5) (N := 25) (v := .int (nI ms)) 247 rfl 0 14 dX5_run_244 rfl (Nat.le_of_ble_eq_true rfl) i5 (by decide +kernel) rfl rfl ?_
      refine v_iconst (v := nI 1) 248 rfl dX5_run_247 (by decide) ?_
      refine v_iaddN (a := ms) (b := 1) 249 rfl dX5_run_248 ?_
      refine v_put (ci := 5) (C := RX5) (T := TX5) (ty0 := tyX5) (N := 25) (ty := .int) (w' := wM ad cI cZ le la kd fs sc mi bh mz oo ie mo mp mf mq (ms + 1) mt mc no lf he pi ot bf ar md) 252 rfl 0 14 dX5_run_249 rfl (Nat.le_of_ble_eq_true rfl) i5 tyX5_ok nmX5 (by decide +kernel) rfl (by decide +kernel) rfl rfl rfl (Nat.le_of_ble_eq_true rfl) rfl ?_
      refine v_iload 254 rfl dX5_run_252 rfl ?_
      refine v_if_eqB (b := true) 297 257 rfl dX5_run_254 (by decide) (fun q => False.elim (by cases q)) (fun c254 => ?_)
      refine v_aload_n 258 rfl dX5_run_257 rfl rfl ?_
      refine v_get (ci := 5) (C := RX5) (T := TX5) (N := 25) (v := .ref (ad 13)) 261 rfl 0 20 dX5_run_258 rfl (Nat.le_of_ble_eq_true rfl) i5 (by decide +kernel) rfl rfl ?_
      refine v_aload_n 262 rfl dX5_run_261 rfl rfl ?_
      refine v_get (ci := 5) (C := RX5) (T := TX5) (N := 25) (v := .int (nI md)) 265 rfl 0 24 dX5_run_262 rfl (Nat.le_of_ble_eq_true rfl) i5 (by decide +kernel) rfl rfl ?_
      refine v_iload 267 rfl dX5_run_265 rfl ?_
      refine v_iast (j := md) (w' := wM ad cI cZ le la kd fs sc mi bh mz oo ie mo mp mf mq (ms + 1) mt mc no lf he (upd pi md (nI a)) ot bf ar md) 268 rfl 13 0 dX5_run_267 rfl rfl (by omega) (by decide) rfl ?_
      refine v_aload_n 269 rfl dX5_run_268 rfl rfl ?_
      refine v_get (ci := 5) (C := RX5) (T := TX5) (N := 25) (v := .ref (ad 14)) 272 rfl 0 21 dX5_run_269 rfl (Nat.le_of_ble_eq_true rfl) i5 (by decide +kernel) rfl rfl ?_
      refine v_aload_n 273 rfl dX5_run_272 rfl rfl ?_
      refine v_get (ci := 5) (C := RX5) (T := TX5) (N := 25) (v := .int (nI md)) 276 rfl 0 24 dX5_run_273 rfl (Nat.le_of_ble_eq_true rfl) i5 (by decide +kernel) rfl rfl ?_
      refine v_iconst (v := bI false) 277 rfl dX5_run_276 (by decide) ?_
      refine v_zast (j := md) (b := false) (w' := wM ad cI cZ le la kd fs sc mi bh mz oo ie mo mp mf mq (ms + 1) mt mc no lf he (upd pi md (nI a)) (upd ot md (bI false)) bf ar md) 278 rfl 14 1 dX5_run_277 rfl rfl (by omega) (by decide) rfl ?_
      refine v_aload_n 279 rfl dX5_run_278 rfl rfl ?_
      refine v_aload_n 280 rfl dX5_run_279 rfl rfl ?_
      refine v_get (ci := 5) (C := RX5) (T := TX5) (N := 25) (v := .int (nI md)) 283 rfl 0 24 dX5_run_280 rfl (Nat.le_of_ble_eq_true rfl) i5 (by decide +kernel) rfl rfl ?_
      refine v_iconst (v := nI 1) 284 rfl dX5_run_283 (by decide) ?_
      refine v_iaddN (a := md) (b := 1) 285 rfl dX5_run_284 ?_
      refine v_put (ci := 5) (C := RX5) (T := TX5) (ty0 := tyX5) (N := 25) (ty := .int) (w' := wM ad cI cZ le la kd fs sc mi bh mz oo ie mo mp mf mq (ms + 1) mt mc no lf he (upd pi md (nI a)) (upd ot md (bI false)) bf ar (md + 1)) 288 rfl 0 24 dX5_run_285 rfl (Nat.le_of_ble_eq_true rfl) i5 tyX5_ok nmX5 (by decide +kernel) rfl (by decide +kernel) rfl rfl rfl (Nat.le_of_ble_eq_true rfl) rfl ?_
      refine v_iload 290 rfl dX5_run_288 rfl ?_
      refine v_iconst (v := nI 1) 291 rfl dX5_run_290 (by decide) ?_
      refine v_iaddN (a := a) (b := 1) 292 rfl dX5_run_291 ?_
      refine v_istore (lv' := [(4, .int (nI (a + 1))), (3, .int (nI (tk + 1))), (7, .int (bI true)), (0, .ref (ad 0)), (1, .int b), (2, .int (nI n)), (5, .int (nI ro)), (6, .int (nI a))]) 294 rfl dX5_run_292 (Nat.le_of_ble_eq_true rfl) rfl ?_
      refine v_goto 327 dX5_run_294 (by decide) ?_
      refine v_iinc (v := nI (ro + 1)) (lv' := [(5, .int (nI (ro + 1))), (4, .int (nI (a + 1))), (3, .int (nI (tk + 1))), (7, .int (bI true)), (0, .ref (ad 0)), (1, .int b), (2, .int (nI n)), (6, .int (nI a))]) 330 rfl dX5_run_327 6 rfl (nI_add _ _) (Nat.le_of_ble_eq_true rfl) rfl ?_
      refine v_goto 51 dX5_run_330 (by decide) ?_
      refine v_lv [4, 5, 6, 2, 1, 0] rfl ?_
      exact h

set_option maxRecDepth 100000 in
set_option maxHeartbeats 4000000 in
theorem mr_ask0I {D : va_G} {cI cZ cJ : ClassId} {l : Launch} {ad : Nat → Nat} {le : Nat → Int32} {la : Nat → Int32} {kd : Nat → Int32} {fs : Nat → Int32} {sc : Nat → Int32} {mi : Nat → Int32} {bh : Nat → Int32} {mz : Nat} {oo : Nat → Int32} {ie : Nat → Int32} {mo : Nat} {mp : Int32} {mf : Int32} {mq : Int32} {ms : Nat} {mt : Int32} {mc : Int32} {no : Nat → Int32} {lf : Nat → Int32} {he : Nat → Int32} {pi : Nat → Int32} {ot : Nat → Int32} {bf : Nat → Int32} {ar : Nat → Int32} {md : Nat} (b : Int32) (n tk p ro a : Nat) (ha : a < 40) (hn : n ≤ 32) (htk : tk < 100000) (hmd : md < 6) (e : Nat) (hbit : mbit b n tk = false) (hk : kd a = nI 4) (he1 : mi a = nI e) {w0 : va_W} {Pr : Option Value → va_W → Prop} (h : V (xN D (tyL cI cZ cJ) l 1 25 w0 Pr) (cX5_run, wsX5_run, yX5_run.cls, 8, (some .int), yX5_run.name) 0 0 (wM ad cI cZ le la kd fs sc mi bh mz oo ie mo mp mf mq (ms + 1) mt mc no lf he pi ot bf ar md) 51 [(0, .ref (ad 0)), (1, .int b), (2, .int (nI n)), (3, .int (nI (tk + 1))), (4, .int (nI e)), (5, .int (nI (ro + 1)))] []) : V (xN D (tyL cI cZ cJ) l 1 25 w0 Pr) (cX5_run, wsX5_run, yX5_run.cls, 8, (some .int), yX5_run.name) 0 0 (wM ad cI cZ le la kd fs sc mi bh mz oo ie mo mp mf mq ms mt mc no lf he pi ot bf ar md) 212 [(0, .ref (ad 0)), (1, .int b), (2, .int (nI n)), (3, .int (nI tk)), (4, .int (nI p)), (5, .int (nI ro)), (6, .int (nI a))] [] := by
  have i5 : ∀ w ∈ u_ws RX5 TX5 25, w ∈ wsX5_run := by decide +kernel
  refine v_iload 214 rfl dX5_run_212 rfl ?_
  refine v_if_ltN (a := a) 327 217 rfl dX5_run_214 (by decide) (by omega) ?_
  refine v_iload_n 218 rfl dX5_run_217 rfl rfl ?_
  refine v_iload_n 219 rfl dX5_run_218 rfl rfl ?_
  refine v_icmp_geN (a := tk) (b := n) 235 222 rfl dX5_run_219 (by decide) (by omega) (by omega) (fun c219 => ?_) (fun c219 => ?_)
  · refine v_iconst (v := bI false) 236 rfl dX5_run_235 (by decide) ?_
    refine v_istore (lv' := [(7, .int (bI false)), (0, .ref (ad 0)), (1, .int b), (2, .int (nI n)), (3, .int (nI tk)), (4, .int (nI p)), (5, .int (nI ro)), (6, .int (nI a))]) 238 rfl dX5_run_236 (Nat.le_of_ble_eq_true rfl) rfl ?_
    refine v_iload_n 239 rfl dX5_run_238 rfl rfl ?_
    refine v_iconst (v := nI 1) 240 rfl dX5_run_239 (by decide) ?_
    refine v_iaddN (a := tk) (b := 1) 241 rfl dX5_run_240 ?_
    refine v_istore_n (lv' := [(3, .int (nI (tk + 1))), (7, .int (bI false)), (0, .ref (ad 0)), (1, .int b), (2, .int (nI n)), (4, .int (nI p)), (5, .int (nI ro)), (6, .int (nI a))]) 242 rfl dX5_run_241 rfl (Nat.le_of_ble_eq_true rfl) rfl ?_
    refine v_aload_n 243 rfl dX5_run_242 rfl rfl ?_
    refine v_aload_n 244 rfl dX5_run_243 rfl rfl ?_
    refine v_get (ci := 5) (C := RX5) (T := TX5) (N := 25) (v := .int (nI ms)) 247 rfl 0 14 dX5_run_244 rfl (Nat.le_of_ble_eq_true rfl) i5 (by decide +kernel) rfl rfl ?_
    refine v_iconst (v := nI 1) 248 rfl dX5_run_247 (by decide) ?_
    refine v_iaddN (a := ms) (b := 1) 249 rfl dX5_run_248 ?_
    refine v_put (ci := 5) (C := RX5) (T := TX5) (ty0 := tyX5) (N := 25) (ty := .int) (w' := wM ad cI cZ le la kd fs sc mi bh mz oo ie mo mp mf mq (ms + 1) mt mc no lf he pi ot bf ar md) 252 rfl 0 14 dX5_run_249 rfl (Nat.le_of_ble_eq_true rfl) i5 tyX5_ok nmX5 (by decide +kernel) rfl (by decide +kernel) rfl rfl rfl (Nat.le_of_ble_eq_true rfl) rfl ?_
    refine v_iload 254 rfl dX5_run_252 rfl ?_
    refine v_if_eqB (b := false) 297 257 rfl dX5_run_254 (by decide) (fun c254 => ?_) (fun q => False.elim (by cases q))
    refine v_aload_n 298 rfl dX5_run_297 rfl rfl ?_
    refine v_get (ci := 5) (C := RX5) (T := TX5) (N := 25) (v := .ref (ad 3)) 301 rfl 0 2 dX5_run_298 rfl (Nat.le_of_ble_eq_true rfl) i5 (by decide +kernel) rfl rfl ?_
    refine v_iload 303 rfl dX5_run_301 rfl ?_
    refine v_iald (j := a) (v := nI 4) 304 rfl 3 0 dX5_run_303 rfl rfl (by omega) (by decide) hk ?_
    refine v_iconst (v := nI 4) 305 rfl dX5_run_304 (by decide) ?_
    refine v_icmp_neN (a := 4) (b := 4) 318 308 rfl dX5_run_305 (by decide) (by omega) (by omega) (fun q => False.elim (by omega)) (fun c305 => ?_)
    refine v_aload_n 309 rfl dX5_run_308 rfl rfl ?_
    refine v_get (ci := 5) (C := RX5) (T := TX5) (N := 25) (v := .ref (ad 6)) 312 rfl 0 5 dX5_run_309 rfl (Nat.le_of_ble_eq_true rfl) i5 (by decide +kernel) rfl rfl ?_
    refine v_iload 314 rfl dX5_run_312 rfl ?_
    refine v_iald (j := a) (v := nI e) 315 rfl 6 0 dX5_run_314 rfl rfl (by omega) (by decide) he1 ?_
    refine v_goto 325 dX5_run_315 (by decide) ?_
    refine v_istore (lv' := [(4, .int (nI e)), (3, .int (nI (tk + 1))), (7, .int (bI false)), (0, .ref (ad 0)), (1, .int b), (2, .int (nI n)), (5, .int (nI ro)), (6, .int (nI a))]) 327 rfl dX5_run_325 (Nat.le_of_ble_eq_true rfl) rfl ?_
    refine v_iinc (v := nI (ro + 1)) (lv' := [(5, .int (nI (ro + 1))), (4, .int (nI e)), (3, .int (nI (tk + 1))), (7, .int (bI false)), (0, .ref (ad 0)), (1, .int b), (2, .int (nI n)), (6, .int (nI a))]) 330 rfl dX5_run_327 6 rfl (nI_add _ _) (Nat.le_of_ble_eq_true rfl) rfl ?_
    refine v_goto 51 dX5_run_330 (by decide) ?_
    refine v_lv [4, 5, 6, 2, 1, 0] rfl ?_
    exact h
  · refine v_iload_n 223 rfl dX5_run_222 rfl rfl ?_
    refine v_iload_n 224 rfl dX5_run_223 rfl rfl ?_
    refine v_ishr 225 rfl dX5_run_224 ?_
    refine v_iconst (v := nI 1) 226 rfl dX5_run_225 (by decide) ?_
    refine v_iand 227 rfl dX5_run_226 ?_
    refine v_iconst (v := nI 1) 228 rfl dX5_run_227 (by decide) ?_
    refine v_icmp_ne 235 231 rfl dX5_run_228 (by decide) (fun c228 => ?_) (fun c228 => ?_)
    · refine v_iconst (v := bI false) 236 rfl dX5_run_235 (by decide) ?_
      refine v_istore (lv' := [(7, .int (bI false)), (0, .ref (ad 0)), (1, .int b), (2, .int (nI n)), (3, .int (nI tk)), (4, .int (nI p)), (5, .int (nI ro)), (6, .int (nI a))]) 238 rfl dX5_run_236 (Nat.le_of_ble_eq_true rfl) rfl ?_
      refine v_iload_n 239 rfl dX5_run_238 rfl rfl ?_
      refine v_iconst (v := nI 1) 240 rfl dX5_run_239 (by decide) ?_
      refine v_iaddN (a := tk) (b := 1) 241 rfl dX5_run_240 ?_
      refine v_istore_n (lv' := [(3, .int (nI (tk + 1))), (7, .int (bI false)), (0, .ref (ad 0)), (1, .int b), (2, .int (nI n)), (4, .int (nI p)), (5, .int (nI ro)), (6, .int (nI a))]) 242 rfl dX5_run_241 rfl (Nat.le_of_ble_eq_true rfl) rfl ?_
      refine v_aload_n 243 rfl dX5_run_242 rfl rfl ?_
      refine v_aload_n 244 rfl dX5_run_243 rfl rfl ?_
      refine v_get (ci := 5) (C := RX5) (T := TX5) (N := 25) (v := .int (nI ms)) 247 rfl 0 14 dX5_run_244 rfl (Nat.le_of_ble_eq_true rfl) i5 (by decide +kernel) rfl rfl ?_
      refine v_iconst (v := nI 1) 248 rfl dX5_run_247 (by decide) ?_
      refine v_iaddN (a := ms) (b := 1) 249 rfl dX5_run_248 ?_
      refine v_put (ci := 5) (C := RX5) (T := TX5) (ty0 := tyX5) (N := 25) (ty := .int) (w' := wM ad cI cZ le la kd fs sc mi bh mz oo ie mo mp mf mq (ms + 1) mt mc no lf he pi ot bf ar md) 252 rfl 0 14 dX5_run_249 rfl (Nat.le_of_ble_eq_true rfl) i5 tyX5_ok nmX5 (by decide +kernel) rfl (by decide +kernel) rfl rfl rfl (Nat.le_of_ble_eq_true rfl) rfl ?_
      refine v_iload 254 rfl dX5_run_252 rfl ?_
      refine v_if_eqB (b := false) 297 257 rfl dX5_run_254 (by decide) (fun c254 => ?_) (fun q => False.elim (by cases q))
      refine v_aload_n 298 rfl dX5_run_297 rfl rfl ?_
      refine v_get (ci := 5) (C := RX5) (T := TX5) (N := 25) (v := .ref (ad 3)) 301 rfl 0 2 dX5_run_298 rfl (Nat.le_of_ble_eq_true rfl) i5 (by decide +kernel) rfl rfl ?_
      refine v_iload 303 rfl dX5_run_301 rfl ?_
      refine v_iald (j := a) (v := nI 4) 304 rfl 3 0 dX5_run_303 rfl rfl (by omega) (by decide) hk ?_
      refine v_iconst (v := nI 4) 305 rfl dX5_run_304 (by decide) ?_
      refine v_icmp_neN (a := 4) (b := 4) 318 308 rfl dX5_run_305 (by decide) (by omega) (by omega) (fun q => False.elim (by omega)) (fun c305 => ?_)
      refine v_aload_n 309 rfl dX5_run_308 rfl rfl ?_
      refine v_get (ci := 5) (C := RX5) (T := TX5) (N := 25) (v := .ref (ad 6)) 312 rfl 0 5 dX5_run_309 rfl (Nat.le_of_ble_eq_true rfl) i5 (by decide +kernel) rfl rfl ?_
      refine v_iload 314 rfl dX5_run_312 rfl ?_
      refine v_iald (j := a) (v := nI e) 315 rfl 6 0 dX5_run_314 rfl rfl (by omega) (by decide) he1 ?_
      refine v_goto 325 dX5_run_315 (by decide) ?_
      refine v_istore (lv' := [(4, .int (nI e)), (3, .int (nI (tk + 1))), (7, .int (bI false)), (0, .ref (ad 0)), (1, .int b), (2, .int (nI n)), (5, .int (nI ro)), (6, .int (nI a))]) 327 rfl dX5_run_325 (Nat.le_of_ble_eq_true rfl) rfl ?_
      refine v_iinc (v := nI (ro + 1)) (lv' := [(5, .int (nI (ro + 1))), (4, .int (nI e)), (3, .int (nI (tk + 1))), (7, .int (bI false)), (0, .ref (ad 0)), (1, .int b), (2, .int (nI n)), (6, .int (nI a))]) 330 rfl dX5_run_327 6 rfl (nI_add _ _) (Nat.le_of_ble_eq_true rfl) rfl ?_
      refine v_goto 51 dX5_run_330 (by decide) ?_
      refine v_lv [4, 5, 6, 2, 1, 0] rfl ?_
      exact h
    · exact absurd hbit (by simp [mbit, Nat.not_lt.mpr, *])

set_option maxRecDepth 100000 in
set_option maxHeartbeats 4000000 in
theorem mr_ask0W {D : va_G} {cI cZ cJ : ClassId} {l : Launch} {ad : Nat → Nat} {le : Nat → Int32} {la : Nat → Int32} {kd : Nat → Int32} {fs : Nat → Int32} {sc : Nat → Int32} {mi : Nat → Int32} {bh : Nat → Int32} {mz : Nat} {oo : Nat → Int32} {ie : Nat → Int32} {mo : Nat} {mp : Int32} {mf : Int32} {mq : Int32} {ms : Nat} {mt : Int32} {mc : Int32} {no : Nat → Int32} {lf : Nat → Int32} {he : Nat → Int32} {pi : Nat → Int32} {ot : Nat → Int32} {bf : Nat → Int32} {ar : Nat → Int32} {md : Nat} (b : Int32) (n tk p ro a : Nat) (ha : a < 40) (hn : n ≤ 32) (htk : tk < 100000) (hmd : md < 6) (e : Nat) (hbit : mbit b n tk = false) (hk : kd a = nI 5) (he1 : bh a = nI e) {w0 : va_W} {Pr : Option Value → va_W → Prop} (h : V (xN D (tyL cI cZ cJ) l 1 25 w0 Pr) (cX5_run, wsX5_run, yX5_run.cls, 8, (some .int), yX5_run.name) 0 0 (wM ad cI cZ le la kd fs sc mi bh mz oo ie mo mp mf mq (ms + 1) mt mc no lf he pi ot bf ar md) 51 [(0, .ref (ad 0)), (1, .int b), (2, .int (nI n)), (3, .int (nI (tk + 1))), (4, .int (nI e)), (5, .int (nI (ro + 1)))] []) : V (xN D (tyL cI cZ cJ) l 1 25 w0 Pr) (cX5_run, wsX5_run, yX5_run.cls, 8, (some .int), yX5_run.name) 0 0 (wM ad cI cZ le la kd fs sc mi bh mz oo ie mo mp mf mq ms mt mc no lf he pi ot bf ar md) 212 [(0, .ref (ad 0)), (1, .int b), (2, .int (nI n)), (3, .int (nI tk)), (4, .int (nI p)), (5, .int (nI ro)), (6, .int (nI a))] [] := by
  have i5 : ∀ w ∈ u_ws RX5 TX5 25, w ∈ wsX5_run := by decide +kernel
  refine v_iload 214 rfl dX5_run_212 rfl ?_
  refine v_if_ltN (a := a) 327 217 rfl dX5_run_214 (by decide) (by omega) ?_
  refine v_iload_n 218 rfl dX5_run_217 rfl rfl ?_
  refine v_iload_n 219 rfl dX5_run_218 rfl rfl ?_
  refine v_icmp_geN (a := tk) (b := n) 235 222 rfl dX5_run_219 (by decide) (by omega) (by omega) (fun c219 => ?_) (fun c219 => ?_)
  · refine v_iconst (v := bI false) 236 rfl dX5_run_235 (by decide) ?_
    refine v_istore (lv' := [(7, .int (bI false)), (0, .ref (ad 0)), (1, .int b), (2, .int (nI n)), (3, .int (nI tk)), (4, .int (nI p)), (5, .int (nI ro)), (6, .int (nI a))]) 238 rfl dX5_run_236 (Nat.le_of_ble_eq_true rfl) rfl ?_
    refine v_iload_n 239 rfl dX5_run_238 rfl rfl ?_
    refine v_iconst (v := nI 1) 240 rfl dX5_run_239 (by decide) ?_
    refine v_iaddN (a := tk) (b := 1) 241 rfl dX5_run_240 ?_
    refine v_istore_n (lv' := [(3, .int (nI (tk + 1))), (7, .int (bI false)), (0, .ref (ad 0)), (1, .int b), (2, .int (nI n)), (4, .int (nI p)), (5, .int (nI ro)), (6, .int (nI a))]) 242 rfl dX5_run_241 rfl (Nat.le_of_ble_eq_true rfl) rfl ?_
    refine v_aload_n 243 rfl dX5_run_242 rfl rfl ?_
    refine v_aload_n 244 rfl dX5_run_243 rfl rfl ?_
    refine v_get (ci := 5) (C := RX5) (T := TX5) (N := 25) (v := .int (nI ms)) 247 rfl 0 14 dX5_run_244 rfl (Nat.le_of_ble_eq_true rfl) i5 (by decide +kernel) rfl rfl ?_
    refine v_iconst (v := nI 1) 248 rfl dX5_run_247 (by decide) ?_
    refine v_iaddN (a := ms) (b := 1) 249 rfl dX5_run_248 ?_
    refine v_put (ci := 5) (C := RX5) (T := TX5) (ty0 := tyX5) (N := 25) (ty := .int) (w' := wM ad cI cZ le la kd fs sc mi bh mz oo ie mo mp mf mq (ms + 1) mt mc no lf he pi ot bf ar md) 252 rfl 0 14 dX5_run_249 rfl (Nat.le_of_ble_eq_true rfl) i5 tyX5_ok nmX5 (by decide +kernel) rfl (by decide +kernel) rfl rfl rfl (Nat.le_of_ble_eq_true rfl) rfl ?_
    refine v_iload 254 rfl dX5_run_252 rfl ?_
    refine v_if_eqB (b := false) 297 257 rfl dX5_run_254 (by decide) (fun c254 => ?_) (fun q => False.elim (by cases q))
    refine v_aload_n 298 rfl dX5_run_297 rfl rfl ?_
    refine v_get (ci := 5) (C := RX5) (T := TX5) (N := 25) (v := .ref (ad 3)) 301 rfl 0 2 dX5_run_298 rfl (Nat.le_of_ble_eq_true rfl) i5 (by decide +kernel) rfl rfl ?_
    refine v_iload 303 rfl dX5_run_301 rfl ?_
    refine v_iald (j := a) (v := nI 5) 304 rfl 3 0 dX5_run_303 rfl rfl (by omega) (by decide) hk ?_
    refine v_iconst (v := nI 4) 305 rfl dX5_run_304 (by decide) ?_
    refine v_icmp_neN (a := 5) (b := 4) 318 308 rfl dX5_run_305 (by decide) (by omega) (by omega) (fun c305 => ?_) (fun q => False.elim (by omega))
    refine v_aload_n 319 rfl dX5_run_318 rfl rfl ?_
    refine v_get (ci := 5) (C := RX5) (T := TX5) (N := 25) (v := .ref (ad 7)) 322 rfl 0 6 dX5_run_319 rfl (Nat.le_of_ble_eq_true rfl) i5 (by decide +kernel) rfl rfl ?_
    refine v_iload 324 rfl dX5_run_322 rfl ?_
    refine v_iald (j := a) (v := nI e) 325 rfl 7 0 dX5_run_324 rfl rfl (by omega) (by decide) he1 ?_
    refine v_istore (lv' := [(4, .int (nI e)), (3, .int (nI (tk + 1))), (7, .int (bI false)), (0, .ref (ad 0)), (1, .int b), (2, .int (nI n)), (5, .int (nI ro)), (6, .int (nI a))]) 327 rfl dX5_run_325 (Nat.le_of_ble_eq_true rfl) rfl ?_
    refine v_iinc (v := nI (ro + 1)) (lv' := [(5, .int (nI (ro + 1))), (4, .int (nI e)), (3, .int (nI (tk + 1))), (7, .int (bI false)), (0, .ref (ad 0)), (1, .int b), (2, .int (nI n)), (6, .int (nI a))]) 330 rfl dX5_run_327 6 rfl (nI_add _ _) (Nat.le_of_ble_eq_true rfl) rfl ?_
    refine v_goto 51 dX5_run_330 (by decide) ?_
    refine v_lv [4, 5, 6, 2, 1, 0] rfl ?_
    exact h
  · refine v_iload_n 223 rfl dX5_run_222 rfl rfl ?_
    refine v_iload_n 224 rfl dX5_run_223 rfl rfl ?_
    refine v_ishr 225 rfl dX5_run_224 ?_
    refine v_iconst (v := nI 1) 226 rfl dX5_run_225 (by decide) ?_
    refine v_iand 227 rfl dX5_run_226 ?_
    refine v_iconst (v := nI 1) 228 rfl dX5_run_227 (by decide) ?_
    refine v_icmp_ne 235 231 rfl dX5_run_228 (by decide) (fun c228 => ?_) (fun c228 => ?_)
    · refine v_iconst (v := bI false) 236 rfl dX5_run_235 (by decide) ?_
      refine v_istore (lv' := [(7, .int (bI false)), (0, .ref (ad 0)), (1, .int b), (2, .int (nI n)), (3, .int (nI tk)), (4, .int (nI p)), (5, .int (nI ro)), (6, .int (nI a))]) 238 rfl dX5_run_236 (Nat.le_of_ble_eq_true rfl) rfl ?_
      refine v_iload_n 239 rfl dX5_run_238 rfl rfl ?_
      refine v_iconst (v := nI 1) 240 rfl dX5_run_239 (by decide) ?_
      refine v_iaddN (a := tk) (b := 1) 241 rfl dX5_run_240 ?_
      refine v_istore_n (lv' := [(3, .int (nI (tk + 1))), (7, .int (bI false)), (0, .ref (ad 0)), (1, .int b), (2, .int (nI n)), (4, .int (nI p)), (5, .int (nI ro)), (6, .int (nI a))]) 242 rfl dX5_run_241 rfl (Nat.le_of_ble_eq_true rfl) rfl ?_
      refine v_aload_n 243 rfl dX5_run_242 rfl rfl ?_
      refine v_aload_n 244 rfl dX5_run_243 rfl rfl ?_
      refine v_get (ci := 5) (C := RX5) (T := TX5) (N := 25) (v := .int (nI ms)) 247 rfl 0 14 dX5_run_244 rfl (Nat.le_of_ble_eq_true rfl) i5 (by decide +kernel) rfl rfl ?_
      refine v_iconst (v := nI 1) 248 rfl dX5_run_247 (by decide) ?_
      refine v_iaddN (a := ms) (b := 1) 249 rfl dX5_run_248 ?_
      refine v_put (ci := 5) (C := RX5) (T := TX5) (ty0 := tyX5) (N := 25) (ty := .int) (w' := wM ad cI cZ le la kd fs sc mi bh mz oo ie mo mp mf mq (ms + 1) mt mc no lf he pi ot bf ar md) 252 rfl 0 14 dX5_run_249 rfl (Nat.le_of_ble_eq_true rfl) i5 tyX5_ok nmX5 (by decide +kernel) rfl (by decide +kernel) rfl rfl rfl (Nat.le_of_ble_eq_true rfl) rfl ?_
      refine v_iload 254 rfl dX5_run_252 rfl ?_
      refine v_if_eqB (b := false) 297 257 rfl dX5_run_254 (by decide) (fun c254 => ?_) (fun q => False.elim (by cases q))
      refine v_aload_n 298 rfl dX5_run_297 rfl rfl ?_
      refine v_get (ci := 5) (C := RX5) (T := TX5) (N := 25) (v := .ref (ad 3)) 301 rfl 0 2 dX5_run_298 rfl (Nat.le_of_ble_eq_true rfl) i5 (by decide +kernel) rfl rfl ?_
      refine v_iload 303 rfl dX5_run_301 rfl ?_
      refine v_iald (j := a) (v := nI 5) 304 rfl 3 0 dX5_run_303 rfl rfl (by omega) (by decide) hk ?_
      refine v_iconst (v := nI 4) 305 rfl dX5_run_304 (by decide) ?_
      refine v_icmp_neN (a := 5) (b := 4) 318 308 rfl dX5_run_305 (by decide) (by omega) (by omega) (fun c305 => ?_) (fun q => False.elim (by omega))
      refine v_aload_n 319 rfl dX5_run_318 rfl rfl ?_
      refine v_get (ci := 5) (C := RX5) (T := TX5) (N := 25) (v := .ref (ad 7)) 322 rfl 0 6 dX5_run_319 rfl (Nat.le_of_ble_eq_true rfl) i5 (by decide +kernel) rfl rfl ?_
      refine v_iload 324 rfl dX5_run_322 rfl ?_
      refine v_iald (j := a) (v := nI e) 325 rfl 7 0 dX5_run_324 rfl rfl (by omega) (by decide) he1 ?_
      refine v_istore (lv' := [(4, .int (nI e)), (3, .int (nI (tk + 1))), (7, .int (bI false)), (0, .ref (ad 0)), (1, .int b), (2, .int (nI n)), (5, .int (nI ro)), (6, .int (nI a))]) 327 rfl dX5_run_325 (Nat.le_of_ble_eq_true rfl) rfl ?_
      refine v_iinc (v := nI (ro + 1)) (lv' := [(5, .int (nI (ro + 1))), (4, .int (nI e)), (3, .int (nI (tk + 1))), (7, .int (bI false)), (0, .ref (ad 0)), (1, .int b), (2, .int (nI n)), (6, .int (nI a))]) 330 rfl dX5_run_327 6 rfl (nI_add _ _) (Nat.le_of_ble_eq_true rfl) rfl ?_
      refine v_goto 51 dX5_run_330 (by decide) ?_
      refine v_lv [4, 5, 6, 2, 1, 0] rfl ?_
      exact h
    · exact absurd hbit (by simp [mbit, Nat.not_lt.mpr, *])

set_option maxRecDepth 100000 in
set_option maxHeartbeats 4000000 in
theorem mr_endI {D : va_G} {cI cZ cJ : ClassId} {l : Launch} {ad : Nat → Nat} {le : Nat → Int32} {la : Nat → Int32} {kd : Nat → Int32} {fs : Nat → Int32} {sc : Nat → Int32} {mi : Nat → Int32} {bh : Nat → Int32} {mz : Nat} {oo : Nat → Int32} {ie : Nat → Int32} {mo : Nat} {mp : Int32} {mf : Int32} {mq : Int32} {ms : Nat} {mt : Int32} {mc : Int32} {no : Nat → Int32} {lf : Nat → Int32} {he : Nat → Int32} {pi : Nat → Int32} {ot : Nat → Int32} {bf : Nat → Int32} {ar : Nat → Int32} {md : Nat} (b : Int32) (n tk p ro k i e : Nat) (hmd : md = k + 1) (hk : k < 6) (hp : pi k = nI i) (hi : i < 40) (he1 : bh i = nI e) (hd : kd i = nI 4) {w0 : va_W} {Pr : Option Value → va_W → Prop} (h : V (xN D (tyL cI cZ cJ) l 1 25 w0 Pr) (cX5_run, wsX5_run, yX5_run.cls, 8, (some .int), yX5_run.name) 0 0 (wM ad cI cZ le la kd fs sc mi bh mz oo ie mo mp mf mq ms mt mc no lf he pi ot bf ar k) 51 [(0, .ref (ad 0)), (1, .int b), (2, .int (nI n)), (3, .int (nI tk)), (4, .int (nI e)), (5, .int (nI (ro + 1)))] []) : V (xN D (tyL cI cZ cJ) l 1 25 w0 Pr) (cX5_run, wsX5_run, yX5_run.cls, 8, (some .int), yX5_run.name) 0 0 (wM ad cI cZ le la kd fs sc mi bh mz oo ie mo mp mf mq ms mt mc no lf he pi ot bf ar md) 101 [(0, .ref (ad 0)), (1, .int b), (2, .int (nI n)), (3, .int (nI tk)), (4, .int (nI p)), (5, .int (nI ro)), (6, .int (-1))] [] := by
  have i5 : ∀ w ∈ u_ws RX5 TX5 25, w ∈ wsX5_run := by decide +kernel
  refine v_aload_n 102 rfl dX5_run_101 rfl rfl ?_
  refine v_aload_n 103 rfl dX5_run_102 rfl rfl ?_
  refine v_get (ci := 5) (C := RX5) (T := TX5) (N := 25) (v := .int (nI md)) 106 rfl 0 24 dX5_run_103 rfl (Nat.le_of_ble_eq_true rfl) i5 (by decide +kernel) rfl rfl ?_
  refine v_iconst (v := nI 1) 107 rfl dX5_run_106 (by decide) ?_
  refine v_isubN (a := md) (b := 1) 108 rfl dX5_run_107 (by omega) ?_
  refine v_top (v' := nI k) (by rw [hmd, Nat.add_sub_cancel]) ?_
  refine v_put (ci := 5) (C := RX5) (T := TX5) (ty0 := tyX5) (N := 25) (ty := .int) (w' := wM ad cI cZ le la kd fs sc mi bh mz oo ie mo mp mf mq ms mt mc no lf he pi ot bf ar k) 111 rfl 0 24 dX5_run_108 rfl (Nat.le_of_ble_eq_true rfl) i5 tyX5_ok nmX5 (by decide +kernel) rfl (by decide +kernel) rfl rfl rfl (Nat.le_of_ble_eq_true rfl) rfl ?_
  refine v_aload_n 112 rfl dX5_run_111 rfl rfl ?_
  refine v_get (ci := 5) (C := RX5) (T := TX5) (N := 25) (v := .ref (ad 13)) 115 rfl 0 20 dX5_run_112 rfl (Nat.le_of_ble_eq_true rfl) i5 (by decide +kernel) rfl rfl ?_
  refine v_aload_n 116 rfl dX5_run_115 rfl rfl ?_
  refine v_get (ci := 5) (C := RX5) (T := TX5) (N := 25) (v := .int (nI k)) 119 rfl 0 24 dX5_run_116 rfl (Nat.le_of_ble_eq_true rfl) i5 (by decide +kernel) rfl rfl ?_
  refine v_iald (j := k) (v := nI i) 120 rfl 13 0 dX5_run_119 rfl rfl (by omega) (by decide) hp ?_
  refine v_istore (lv' := [(7, .int (nI i)), (0, .ref (ad 0)), (1, .int b), (2, .int (nI n)), (3, .int (nI tk)), (4, .int (nI p)), (5, .int (nI ro)), (6, .int (-1))]) 122 rfl dX5_run_120 (Nat.le_of_ble_eq_true rfl) rfl ?_
  refine v_aload_n 123 rfl dX5_run_122 rfl rfl ?_
  refine v_get (ci := 5) (C := RX5) (T := TX5) (N := 25) (v := .ref (ad 3)) 126 rfl 0 2 dX5_run_123 rfl (Nat.le_of_ble_eq_true rfl) i5 (by decide +kernel) rfl rfl ?_
  refine v_iload 128 rfl dX5_run_126 rfl ?_
  refine v_iald (j := i) (v := nI 4) 129 rfl 3 0 dX5_run_128 rfl rfl (by omega) (by decide) hd ?_
  refine v_iconst (v := nI 4) 130 rfl dX5_run_129 (by decide) ?_
  refine v_icmp_neN (a := 4) (b := 4) 145 133 rfl dX5_run_130 (by decide) (by omega) (by omega) (fun q => False.elim (by omega)) (fun c130 => ?_)
  refine v_aload_n 134 rfl dX5_run_133 rfl rfl ?_
  refine v_get (ci := 5) (C := RX5) (T := TX5) (N := 25) (v := .ref (ad 7)) 137 rfl 0 6 dX5_run_134 rfl (Nat.le_of_ble_eq_true rfl) i5 (by decide +kernel) rfl rfl ?_
  refine v_iload 139 rfl dX5_run_137 rfl ?_
  refine v_iald (j := i) (v := nI e) 140 rfl 7 0 dX5_run_139 rfl rfl (by omega) (by decide) he1 ?_
  refine v_istore (lv' := [(4, .int (nI e)), (7, .int (nI i)), (0, .ref (ad 0)), (1, .int b), (2, .int (nI n)), (3, .int (nI tk)), (5, .int (nI ro)), (6, .int (-1))]) 142 rfl dX5_run_140 (Nat.le_of_ble_eq_true rfl) rfl ?_
  refine v_goto 149 dX5_run_142 (by decide) ?_
  refine v_goto 212 dX5_run_149 (by decide) ?_
  refine v_iload 214 rfl dX5_run_212 rfl ?_
  refine v_if_lt 327 217 rfl dX5_run_214 (by decide) (fun c214 => ?_) (fun q => False.elim (by exact absurd (by decide) q))
  refine v_iinc (v := nI (ro + 1)) (lv' := [(5, .int (nI (ro + 1))), (4, .int (nI e)), (7, .int (nI i)), (0, .ref (ad 0)), (1, .int b), (2, .int (nI n)), (3, .int (nI tk)), (6, .int (-1))]) 330 rfl dX5_run_327 6 rfl (nI_add _ _) (Nat.le_of_ble_eq_true rfl) rfl ?_
  refine v_goto 51 dX5_run_330 (by decide) ?_
  refine v_lv [3, 4, 5, 6, 1, 0] rfl ?_
  exact h

set_option maxRecDepth 100000 in
set_option maxHeartbeats 4000000 in
theorem mr_endW {D : va_G} {cI cZ cJ : ClassId} {l : Launch} {ad : Nat → Nat} {le : Nat → Int32} {la : Nat → Int32} {kd : Nat → Int32} {fs : Nat → Int32} {sc : Nat → Int32} {mi : Nat → Int32} {bh : Nat → Int32} {mz : Nat} {oo : Nat → Int32} {ie : Nat → Int32} {mo : Nat} {mp : Int32} {mf : Int32} {mq : Int32} {ms : Nat} {mt : Int32} {mc : Int32} {no : Nat → Int32} {lf : Nat → Int32} {he : Nat → Int32} {pi : Nat → Int32} {ot : Nat → Int32} {bf : Nat → Int32} {ar : Nat → Int32} {md : Nat} (b : Int32) (n tk p ro k i e : Nat) (hmd : md = k + 1) (hk : k < 6) (hp : pi k = nI i) (hi : i < 40) (he1 : bh i = nI e) (hd : kd i = nI 5) {w0 : va_W} {Pr : Option Value → va_W → Prop} (h : V (xN D (tyL cI cZ cJ) l 1 25 w0 Pr) (cX5_run, wsX5_run, yX5_run.cls, 8, (some .int), yX5_run.name) 0 0 (wM ad cI cZ le la kd fs sc mi bh mz oo ie mo mp mf mq ms mt mc no lf he pi ot bf ar k) 212 [(0, .ref (ad 0)), (1, .int b), (2, .int (nI n)), (3, .int (nI tk)), (4, .int (nI p)), (5, .int (nI ro)), (6, .int (nI i))] []) : V (xN D (tyL cI cZ cJ) l 1 25 w0 Pr) (cX5_run, wsX5_run, yX5_run.cls, 8, (some .int), yX5_run.name) 0 0 (wM ad cI cZ le la kd fs sc mi bh mz oo ie mo mp mf mq ms mt mc no lf he pi ot bf ar md) 101 [(0, .ref (ad 0)), (1, .int b), (2, .int (nI n)), (3, .int (nI tk)), (4, .int (nI p)), (5, .int (nI ro)), (6, .int (-1))] [] := by
  have i5 : ∀ w ∈ u_ws RX5 TX5 25, w ∈ wsX5_run := by decide +kernel
  refine v_aload_n 102 rfl dX5_run_101 rfl rfl ?_
  refine v_aload_n 103 rfl dX5_run_102 rfl rfl ?_
  refine v_get (ci := 5) (C := RX5) (T := TX5) (N := 25) (v := .int (nI md)) 106 rfl 0 24 dX5_run_103 rfl (Nat.le_of_ble_eq_true rfl) i5 (by decide +kernel) rfl rfl ?_
  refine v_iconst (v := nI 1) 107 rfl dX5_run_106 (by decide) ?_
  refine v_isubN (a := md) (b := 1) 108 rfl dX5_run_107 (by omega) ?_
  refine v_top (v' := nI k) (by rw [hmd, Nat.add_sub_cancel]) ?_
  refine v_put (ci := 5) (C := RX5) (T := TX5) (ty0 := tyX5) (N := 25) (ty := .int) (w' := wM ad cI cZ le la kd fs sc mi bh mz oo ie mo mp mf mq ms mt mc no lf he pi ot bf ar k) 111 rfl 0 24 dX5_run_108 rfl (Nat.le_of_ble_eq_true rfl) i5 tyX5_ok nmX5 (by decide +kernel) rfl (by decide +kernel) rfl rfl rfl (Nat.le_of_ble_eq_true rfl) rfl ?_
  refine v_aload_n 112 rfl dX5_run_111 rfl rfl ?_
  refine v_get (ci := 5) (C := RX5) (T := TX5) (N := 25) (v := .ref (ad 13)) 115 rfl 0 20 dX5_run_112 rfl (Nat.le_of_ble_eq_true rfl) i5 (by decide +kernel) rfl rfl ?_
  refine v_aload_n 116 rfl dX5_run_115 rfl rfl ?_
  refine v_get (ci := 5) (C := RX5) (T := TX5) (N := 25) (v := .int (nI k)) 119 rfl 0 24 dX5_run_116 rfl (Nat.le_of_ble_eq_true rfl) i5 (by decide +kernel) rfl rfl ?_
  refine v_iald (j := k) (v := nI i) 120 rfl 13 0 dX5_run_119 rfl rfl (by omega) (by decide) hp ?_
  refine v_istore (lv' := [(7, .int (nI i)), (0, .ref (ad 0)), (1, .int b), (2, .int (nI n)), (3, .int (nI tk)), (4, .int (nI p)), (5, .int (nI ro)), (6, .int (-1))]) 122 rfl dX5_run_120 (Nat.le_of_ble_eq_true rfl) rfl ?_
  refine v_aload_n 123 rfl dX5_run_122 rfl rfl ?_
  refine v_get (ci := 5) (C := RX5) (T := TX5) (N := 25) (v := .ref (ad 3)) 126 rfl 0 2 dX5_run_123 rfl (Nat.le_of_ble_eq_true rfl) i5 (by decide +kernel) rfl rfl ?_
  refine v_iload 128 rfl dX5_run_126 rfl ?_
  refine v_iald (j := i) (v := nI 5) 129 rfl 3 0 dX5_run_128 rfl rfl (by omega) (by decide) hd ?_
  refine v_iconst (v := nI 4) 130 rfl dX5_run_129 (by decide) ?_
  refine v_icmp_neN (a := 5) (b := 4) 145 133 rfl dX5_run_130 (by decide) (by omega) (by omega) (fun c130 => ?_) (fun q => False.elim (by omega))
  refine v_iload 147 rfl dX5_run_145 rfl ?_
  refine v_istore (lv' := [(6, .int (nI i)), (7, .int (nI i)), (0, .ref (ad 0)), (1, .int b), (2, .int (nI n)), (3, .int (nI tk)), (4, .int (nI p)), (5, .int (nI ro))]) 149 rfl dX5_run_147 (Nat.le_of_ble_eq_true rfl) rfl ?_
  refine v_goto 212 dX5_run_149 (by decide) ?_
  refine v_lv [2, 3, 4, 5, 6, 7, 0] rfl ?_
  exact h

set_option maxRecDepth 100000 in
set_option maxHeartbeats 4000000 in
theorem mr_fault {D : va_G} {cI cZ cJ : ClassId} {l : Launch} {ad : Nat → Nat} {le : Nat → Int32} {la : Nat → Int32} {kd : Nat → Int32} {fs : Nat → Int32} {sc : Nat → Int32} {mi : Nat → Int32} {bh : Nat → Int32} {mz : Nat} {oo : Nat → Int32} {ie : Nat → Int32} {mo : Nat} {mp : Int32} {mq : Int32} {ms : Nat} {mt : Int32} {mc : Int32} {lf : Nat → Int32} {he : Nat → Int32} {pi : Nat → Int32} {ot : Nat → Int32} {bf : Nat → Int32} {ar : Nat → Int32} {md : Nat} (b : Int32) (n tk p ro f A : Nat) (hf : 0 < f) (hf9 : f < 9) (hro : ro < 5000) (hlf : ∀ j, 4 ≤ j → lf j = 0) {w0 : va_W} {Pr : Option Value → va_W → Prop} (hPr : Pr (some (.int (nI ms))) (wM ad cI cZ le la kd fs sc mi bh mz oo ie mo mp (nI f) mq ms (nI 2) mc (nowOf A) (nowOf A) he pi ot bf ar md)) : V (xN D (tyL cI cZ cJ) l 1 25 w0 Pr) (cX5_run, wsX5_run, yX5_run.cls, 8, (some .int), yX5_run.name) 0 0 (wM ad cI cZ le la kd fs sc mi bh mz oo ie mo mp (nI f) mq ms mt mc (nowOf A) lf he pi ot bf ar md) 51 [(0, .ref (ad 0)), (1, .int b), (2, .int (nI n)), (3, .int (nI tk)), (4, .int (nI p)), (5, .int (nI ro))] [] := by
  have i5 : ∀ w ∈ u_ws RX5 TX5 25, w ∈ wsX5_run := by decide +kernel
  refine v_iload 53 rfl dX5_run_51 rfl ?_
  refine v_sipush (v := nI 5000) 56 rfl dX5_run_53 (by decide) ?_
  refine v_icmp_geN (a := ro) (b := 5000) 333 59 rfl dX5_run_56 (by decide) (by omega) (by omega) (fun q => False.elim (by omega)) (fun c56 => ?_)
  refine v_aload_n 60 rfl dX5_run_59 rfl rfl ?_
  refine v_get (ci := 5) (C := RX5) (T := TX5) (N := 25) (v := .int (nI f)) 63 rfl 0 12 dX5_run_60 rfl (Nat.le_of_ble_eq_true rfl) i5 (by decide +kernel) rfl rfl ?_
  refine v_if_neN (a := f) 333 66 rfl dX5_run_63 (by decide) (by omega) (fun c63 => ?_) (fun q => False.elim (by omega))
  refine v_aload_n 334 rfl dX5_run_333 rfl rfl ?_
  refine v_get (ci := 5) (C := RX5) (T := TX5) (N := 25) (v := .int (nI f)) 337 rfl 0 12 dX5_run_334 rfl (Nat.le_of_ble_eq_true rfl) i5 (by decide +kernel) rfl rfl ?_
  refine v_if_neN (a := f) 361 340 rfl dX5_run_337 (by decide) (by omega) (fun c337 => ?_) (fun q => False.elim (by omega))
  refine v_iconst (v := nI 0) 362 rfl dX5_run_361 (by decide) ?_
  refine v_istore (lv' := [(5, .int (nI 0)), (0, .ref (ad 0)), (1, .int b), (2, .int (nI n)), (3, .int (nI tk)), (4, .int (nI p))]) 364 rfl dX5_run_362 (Nat.le_of_ble_eq_true rfl) rfl ?_
  refine v_iload 366 rfl dX5_run_364 rfl ?_
  refine v_iconst (v := nI 4) 367 rfl dX5_run_366 (by decide) ?_
  refine v_icmp_geN (a := 0) (b := 4) 390 370 rfl dX5_run_367 (by decide) (by omega) (by omega) (fun q => False.elim (by omega)) (fun c367 => ?_)
  refine v_aload_n 371 rfl dX5_run_370 rfl rfl ?_
  refine v_get (ci := 5) (C := RX5) (T := TX5) (N := 25) (v := .ref (ad 11)) 374 rfl 0 18 dX5_run_371 rfl (Nat.le_of_ble_eq_true rfl) i5 (by decide +kernel) rfl rfl ?_
  refine v_iload 376 rfl dX5_run_374 rfl ?_
  refine v_aload_n 377 rfl dX5_run_376 rfl rfl ?_
  refine v_get (ci := 5) (C := RX5) (T := TX5) (N := 25) (v := .ref (ad 10)) 380 rfl 0 17 dX5_run_377 rfl (Nat.le_of_ble_eq_true rfl) i5 (by decide +kernel) rfl rfl ?_
  refine v_iload 382 rfl dX5_run_380 rfl ?_
  refine v_iald (j := 0) (v := oI (hb A 0)) 383 rfl 10 0 dX5_run_382 rfl rfl (by omega) (by decide) (nowOf_at (by omega)) ?_
  refine v_iast (j := 0) (w' := wM ad cI cZ le la kd fs sc mi bh mz oo ie mo mp (nI f) mq ms mt mc (nowOf A) (upd lf 0 (oI (hb A 0))) he pi ot bf ar md) 384 rfl 11 0 dX5_run_383 rfl rfl (by omega) (by decide) rfl ?_
  refine v_iinc (v := nI 1) (lv' := [(5, .int (nI 1)), (0, .ref (ad 0)), (1, .int b), (2, .int (nI n)), (3, .int (nI tk)), (4, .int (nI p))]) 387 rfl dX5_run_384 0 rfl (nI_add _ _) (Nat.le_of_ble_eq_true rfl) rfl ?_
  refine v_goto 364 dX5_run_387 (by decide) ?_
  refine v_iload 366 rfl dX5_run_364 rfl ?_
  refine v_iconst (v := nI 4) 367 rfl dX5_run_366 (by decide) ?_
  refine v_icmp_geN (a := 1) (b := 4) 390 370 rfl dX5_run_367 (by decide) (by omega) (by omega) (fun q => False.elim (by omega)) (fun c367 => ?_)
  refine v_aload_n 371 rfl dX5_run_370 rfl rfl ?_
  refine v_get (ci := 5) (C := RX5) (T := TX5) (N := 25) (v := .ref (ad 11)) 374 rfl 0 18 dX5_run_371 rfl (Nat.le_of_ble_eq_true rfl) i5 (by decide +kernel) rfl rfl ?_
  refine v_iload 376 rfl dX5_run_374 rfl ?_
  refine v_aload_n 377 rfl dX5_run_376 rfl rfl ?_
  refine v_get (ci := 5) (C := RX5) (T := TX5) (N := 25) (v := .ref (ad 10)) 380 rfl 0 17 dX5_run_377 rfl (Nat.le_of_ble_eq_true rfl) i5 (by decide +kernel) rfl rfl ?_
  refine v_iload 382 rfl dX5_run_380 rfl ?_
  refine v_iald (j := 1) (v := oI (hb A 1)) 383 rfl 10 0 dX5_run_382 rfl rfl (by omega) (by decide) (nowOf_at (by omega)) ?_
  refine v_iast (j := 1) (w' := wM ad cI cZ le la kd fs sc mi bh mz oo ie mo mp (nI f) mq ms mt mc (nowOf A) (upd (upd lf 0 (oI (hb A 0))) 1 (oI (hb A 1))) he pi ot bf ar md) 384 rfl 11 0 dX5_run_383 rfl rfl (by omega) (by decide) rfl ?_
  refine v_iinc (v := nI 2) (lv' := [(5, .int (nI 2)), (0, .ref (ad 0)), (1, .int b), (2, .int (nI n)), (3, .int (nI tk)), (4, .int (nI p))]) 387 rfl dX5_run_384 0 rfl (nI_add _ _) (Nat.le_of_ble_eq_true rfl) rfl ?_
  refine v_goto 364 dX5_run_387 (by decide) ?_
  refine v_iload 366 rfl dX5_run_364 rfl ?_
  refine v_iconst (v := nI 4) 367 rfl dX5_run_366 (by decide) ?_
  refine v_icmp_geN (a := 2) (b := 4) 390 370 rfl dX5_run_367 (by decide) (by omega) (by omega) (fun q => False.elim (by omega)) (fun c367 => ?_)
  refine v_aload_n 371 rfl dX5_run_370 rfl rfl ?_
  refine v_get (ci := 5) (C := RX5) (T := TX5) (N := 25) (v := .ref (ad 11)) 374 rfl 0 18 dX5_run_371 rfl (Nat.le_of_ble_eq_true rfl) i5 (by decide +kernel) rfl rfl ?_
  refine v_iload 376 rfl dX5_run_374 rfl ?_
  refine v_aload_n 377 rfl dX5_run_376 rfl rfl ?_
  refine v_get (ci := 5) (C := RX5) (T := TX5) (N := 25) (v := .ref (ad 10)) 380 rfl 0 17 dX5_run_377 rfl (Nat.le_of_ble_eq_true rfl) i5 (by decide +kernel) rfl rfl ?_
  refine v_iload 382 rfl dX5_run_380 rfl ?_
  refine v_iald (j := 2) (v := oI (hb A 2)) 383 rfl 10 0 dX5_run_382 rfl rfl (by omega) (by decide) (nowOf_at (by omega)) ?_
  refine v_iast (j := 2) (w' := wM ad cI cZ le la kd fs sc mi bh mz oo ie mo mp (nI f) mq ms mt mc (nowOf A) (upd (upd (upd lf 0 (oI (hb A 0))) 1 (oI (hb A 1))) 2 (oI (hb A 2))) he pi ot bf ar md) 384 rfl 11 0 dX5_run_383 rfl rfl (by omega) (by decide) rfl ?_
  refine v_iinc (v := nI 3) (lv' := [(5, .int (nI 3)), (0, .ref (ad 0)), (1, .int b), (2, .int (nI n)), (3, .int (nI tk)), (4, .int (nI p))]) 387 rfl dX5_run_384 0 rfl (nI_add _ _) (Nat.le_of_ble_eq_true rfl) rfl ?_
  refine v_goto 364 dX5_run_387 (by decide) ?_
  refine v_iload 366 rfl dX5_run_364 rfl ?_
  refine v_iconst (v := nI 4) 367 rfl dX5_run_366 (by decide) ?_
  refine v_icmp_geN (a := 3) (b := 4) 390 370 rfl dX5_run_367 (by decide) (by omega) (by omega) (fun q => False.elim (by omega)) (fun c367 => ?_)
  refine v_aload_n 371 rfl dX5_run_370 rfl rfl ?_
  refine v_get (ci := 5) (C := RX5) (T := TX5) (N := 25) (v := .ref (ad 11)) 374 rfl 0 18 dX5_run_371 rfl (Nat.le_of_ble_eq_true rfl) i5 (by decide +kernel) rfl rfl ?_
  refine v_iload 376 rfl dX5_run_374 rfl ?_
  refine v_aload_n 377 rfl dX5_run_376 rfl rfl ?_
  refine v_get (ci := 5) (C := RX5) (T := TX5) (N := 25) (v := .ref (ad 10)) 380 rfl 0 17 dX5_run_377 rfl (Nat.le_of_ble_eq_true rfl) i5 (by decide +kernel) rfl rfl ?_
  refine v_iload 382 rfl dX5_run_380 rfl ?_
  refine v_iald (j := 3) (v := oI (hb A 3)) 383 rfl 10 0 dX5_run_382 rfl rfl (by omega) (by decide) (nowOf_at (by omega)) ?_
  refine v_iast (j := 3) (w' := wM ad cI cZ le la kd fs sc mi bh mz oo ie mo mp (nI f) mq ms mt mc (nowOf A) (upd (upd (upd (upd lf 0 (oI (hb A 0))) 1 (oI (hb A 1))) 2 (oI (hb A 2))) 3 (oI (hb A 3))) he pi ot bf ar md) 384 rfl 11 0 dX5_run_383 rfl rfl (by omega) (by decide) rfl ?_
  refine v_iinc (v := nI 4) (lv' := [(5, .int (nI 4)), (0, .ref (ad 0)), (1, .int b), (2, .int (nI n)), (3, .int (nI tk)), (4, .int (nI p))]) 387 rfl dX5_run_384 0 rfl (nI_add _ _) (Nat.le_of_ble_eq_true rfl) rfl ?_
  refine v_goto 364 dX5_run_387 (by decide) ?_
  refine v_iload 366 rfl dX5_run_364 rfl ?_
  refine v_iconst (v := nI 4) 367 rfl dX5_run_366 (by decide) ?_
  refine v_icmp_geN (a := 4) (b := 4) 390 370 rfl dX5_run_367 (by decide) (by omega) (by omega) (fun c367 => ?_) (fun q => False.elim (by omega))
  refine v_w (w' := wM ad cI cZ le la kd fs sc mi bh mz oo ie mo mp (nI f) mq ms mt mc (nowOf A) (nowOf A) he pi ot bf ar md) (by rw [now4 hlf A rfl rfl rfl rfl]) ?_
  refine v_aload_n 391 rfl dX5_run_390 rfl rfl ?_
  refine v_aload_n 392 rfl dX5_run_391 rfl rfl ?_
  refine v_get (ci := 5) (C := RX5) (T := TX5) (N := 25) (v := .int (nI f)) 395 rfl 0 12 dX5_run_392 rfl (Nat.le_of_ble_eq_true rfl) i5 (by decide +kernel) rfl rfl ?_
  refine v_if_leN (a := f) 402 398 rfl dX5_run_395 (by decide) (by omega) (fun q => False.elim (by omega)) (fun c395 => ?_)
  refine v_iconst (v := nI 2) 399 rfl dX5_run_398 (by decide) ?_
  refine v_goto 403 dX5_run_399 (by decide) ?_
  refine v_put (ci := 5) (C := RX5) (T := TX5) (ty0 := tyX5) (N := 25) (ty := .int) (w' := wM ad cI cZ le la kd fs sc mi bh mz oo ie mo mp (nI f) mq ms (nI 2) mc (nowOf A) (nowOf A) he pi ot bf ar md) 406 rfl 0 15 dX5_run_403 rfl (Nat.le_of_ble_eq_true rfl) i5 tyX5_ok nmX5 (by decide +kernel) rfl (by decide +kernel) rfl rfl rfl (Nat.le_of_ble_eq_true rfl) rfl ?_
  refine v_aload_n 407 rfl dX5_run_406 rfl rfl ?_
  refine v_get (ci := 5) (C := RX5) (T := TX5) (N := 25) (v := .int (nI ms)) 410 rfl 0 14 dX5_run_407 rfl (Nat.le_of_ble_eq_true rfl) i5 (by decide +kernel) rfl rfl ?_
  exact v_iretE dX5_run_410 rfl hPr

set_option maxRecDepth 100000 in
set_option maxHeartbeats 4000000 in
theorem mr_done {D : va_G} {cI cZ cJ : ClassId} {l : Launch} {ad : Nat → Nat} {le : Nat → Int32} {la : Nat → Int32} {kd : Nat → Int32} {fs : Nat → Int32} {sc : Nat → Int32} {mi : Nat → Int32} {bh : Nat → Int32} {mz : Nat} {oo : Nat → Int32} {ie : Nat → Int32} {mo : Nat} {mp : Int32} {mq : Int32} {ms : Nat} {mt : Int32} {mc : Int32} {lf : Nat → Int32} {he : Nat → Int32} {pi : Nat → Int32} {ot : Nat → Int32} {bf : Nat → Int32} {ar : Nat → Int32} {md : Nat} (b : Int32) (n tk p ro : Nat) (hp : p = mz) (hmd : md = 0) (hz : mz ≤ 40) (hro : ro < 5000) (hlf : ∀ j, 4 ≤ j → lf j = 0) (tn : Nat → Nat) (fb : Nat → Bool) (A : Nat) (hA : Okh A) (hla : ∀ p s : Nat, p < 3 → s < 5 → la (5 * p + s) = bI (fb (8 * p + s))) {w0 : va_W} {Pr : Option Value → va_W → Prop} (hPr : Pr (some (.int (nI ms))) (wM ad cI cZ le la kd fs sc mi bh mz oo ie mo mp (nI (leav fb A 4 0)) (if leav fb A 4 0 = 0 then mq else nI mz) ms (if leav fb A 4 0 = 0 then nI 0 else nI 2) mc (nowOf A) (nowOf A) he pi ot bf ar md)) : V (xN D (tyL cI cZ cJ) l 1 25 w0 Pr) (cX5_run, wsX5_run, yX5_run.cls, 8, (some .int), yX5_run.name) 0 0 (wM ad cI cZ le la kd fs sc mi bh mz oo ie mo mp (nI 0) mq ms mt mc (nowOf A) lf he pi ot bf ar md) 51 [(0, .ref (ad 0)), (1, .int b), (2, .int (nI n)), (3, .int (nI tk)), (4, .int (nI p)), (5, .int (nI ro))] [] := by
  have i5 : ∀ w ∈ u_ws RX5 TX5 25, w ∈ wsX5_run := by decide +kernel
  refine v_iload 53 rfl dX5_run_51 rfl ?_
  refine v_sipush (v := nI 5000) 56 rfl dX5_run_53 (by decide) ?_
  refine v_icmp_geN (a := ro) (b := 5000) 333 59 rfl dX5_run_56 (by decide) (by omega) (by omega) (fun q => False.elim (by omega)) (fun c56 => ?_)
  refine v_aload_n 60 rfl dX5_run_59 rfl rfl ?_
  refine v_get (ci := 5) (C := RX5) (T := TX5) (N := 25) (v := .int (nI 0)) 63 rfl 0 12 dX5_run_60 rfl (Nat.le_of_ble_eq_true rfl) i5 (by decide +kernel) rfl rfl ?_
  refine v_if_neN (a := 0) 333 66 rfl dX5_run_63 (by decide) (by omega) (fun q => False.elim (by omega)) (fun c63 => ?_)
  refine v_iload 68 rfl dX5_run_66 rfl ?_
  refine v_aload_n 69 rfl dX5_run_68 rfl rfl ?_
  refine v_get (ci := 5) (C := RX5) (T := TX5) (N := 25) (v := .int (nI mz)) 72 rfl 0 7 dX5_run_69 rfl (Nat.le_of_ble_eq_true rfl) i5 (by decide +kernel) rfl rfl ?_
  refine v_icmp_ltN (a := p) (b := mz) 82 75 rfl dX5_run_72 (by decide) (by omega) (by omega) (fun q => False.elim (by omega)) (fun c72 => ?_)
  refine v_aload_n 76 rfl dX5_run_75 rfl rfl ?_
  refine v_get (ci := 5) (C := RX5) (T := TX5) (N := 25) (v := .int (nI md)) 79 rfl 0 24 dX5_run_76 rfl (Nat.le_of_ble_eq_true rfl) i5 (by decide +kernel) rfl rfl ?_
  refine v_if_leN (a := md) 333 82 rfl dX5_run_79 (by decide) (by omega) (fun c79 => ?_) (fun q => False.elim (by omega))
  refine v_aload_n 334 rfl dX5_run_333 rfl rfl ?_
  refine v_get (ci := 5) (C := RX5) (T := TX5) (N := 25) (v := .int (nI 0)) 337 rfl 0 12 dX5_run_334 rfl (Nat.le_of_ble_eq_true rfl) i5 (by decide +kernel) rfl rfl ?_
  refine v_if_neN (a := 0) 361 340 rfl dX5_run_337 (by decide) (by omega) (fun q => False.elim (by omega)) (fun c337 => ?_)
  refine v_aload_n 341 rfl dX5_run_340 rfl rfl ?_
  refine v_callF (n := 0) (q0 := 0) (ci := 5) 344 rfl (m_unfinished tn fb A hA hla) gX5_run_X5_unfinished rfl (by decide +kernel) rfl ⟨(Nat.le_of_ble_eq_true rfl), (Nat.le_of_ble_eq_true rfl)⟩ rfl (Nat.le_of_ble_eq_true rfl) rfl rfl rfl dX5_run_341 ⟨Nat.zero_le _, Nat.zero_le _⟩ rfl ?_
  refine v_st (st' := [.int (bI (decide (leav fb A 4 0 ≠ 0)))]) rfl ?_
  refine v_if_eqB (b := decide (leav fb A 4 0 ≠ 0)) 361 347 rfl dX5_run_344 (by decide) (fun c344 => ?_) (fun c344 => ?_)
  · have z : leav fb A 4 0 = 0 := by simpa using c344
    refine v_iconst (v := nI 0) 362 rfl dX5_run_361 (by decide) ?_
    refine v_istore (lv' := [(5, .int (nI 0)), (0, .ref (ad 0)), (1, .int b), (2, .int (nI n)), (3, .int (nI tk)), (4, .int (nI p))]) 364 rfl dX5_run_362 (Nat.le_of_ble_eq_true rfl) rfl ?_
    refine v_iload 366 rfl dX5_run_364 rfl ?_
    refine v_iconst (v := nI 4) 367 rfl dX5_run_366 (by decide) ?_
    refine v_icmp_geN (a := 0) (b := 4) 390 370 rfl dX5_run_367 (by decide) (by omega) (by omega) (fun q => False.elim (by omega)) (fun c367 => ?_)
    refine v_aload_n 371 rfl dX5_run_370 rfl rfl ?_
    refine v_get (ci := 5) (C := RX5) (T := TX5) (N := 25) (v := .ref (ad 11)) 374 rfl 0 18 dX5_run_371 rfl (Nat.le_of_ble_eq_true rfl) i5 (by decide +kernel) rfl rfl ?_
    refine v_iload 376 rfl dX5_run_374 rfl ?_
    refine v_aload_n 377 rfl dX5_run_376 rfl rfl ?_
    refine v_get (ci := 5) (C := RX5) (T := TX5) (N := 25) (v := .ref (ad 10)) 380 rfl 0 17 dX5_run_377 rfl (Nat.le_of_ble_eq_true rfl) i5 (by decide +kernel) rfl rfl ?_
    refine v_iload 382 rfl dX5_run_380 rfl ?_
    refine v_iald (j := 0) (v := oI (hb A 0)) 383 rfl 10 0 dX5_run_382 rfl rfl (by omega) (by decide) (nowOf_at (by omega)) ?_
    refine v_iast (j := 0) (w' := wM ad cI cZ le la kd fs sc mi bh mz oo ie mo mp (nI 0) mq ms mt mc (nowOf A) (upd lf 0 (oI (hb A 0))) he pi ot bf ar md) 384 rfl 11 0 dX5_run_383 rfl rfl (by omega) (by decide) rfl ?_
    refine v_iinc (v := nI 1) (lv' := [(5, .int (nI 1)), (0, .ref (ad 0)), (1, .int b), (2, .int (nI n)), (3, .int (nI tk)), (4, .int (nI p))]) 387 rfl dX5_run_384 0 rfl (nI_add _ _) (Nat.le_of_ble_eq_true rfl) rfl ?_
    refine v_goto 364 dX5_run_387 (by decide) ?_
    refine v_iload 366 rfl dX5_run_364 rfl ?_
    refine v_iconst (v := nI 4) 367 rfl dX5_run_366 (by decide) ?_
    refine v_icmp_geN (a := 1) (b := 4) 390 370 rfl dX5_run_367 (by decide) (by omega) (by omega) (fun q => False.elim (by omega)) (fun c367 => ?_)
    refine v_aload_n 371 rfl dX5_run_370 rfl rfl ?_
    refine v_get (ci := 5) (C := RX5) (T := TX5) (N := 25) (v := .ref (ad 11)) 374 rfl 0 18 dX5_run_371 rfl (Nat.le_of_ble_eq_true rfl) i5 (by decide +kernel) rfl rfl ?_
    refine v_iload 376 rfl dX5_run_374 rfl ?_
    refine v_aload_n 377 rfl dX5_run_376 rfl rfl ?_
    refine v_get (ci := 5) (C := RX5) (T := TX5) (N := 25) (v := .ref (ad 10)) 380 rfl 0 17 dX5_run_377 rfl (Nat.le_of_ble_eq_true rfl) i5 (by decide +kernel) rfl rfl ?_
    refine v_iload 382 rfl dX5_run_380 rfl ?_
    refine v_iald (j := 1) (v := oI (hb A 1)) 383 rfl 10 0 dX5_run_382 rfl rfl (by omega) (by decide) (nowOf_at (by omega)) ?_
    refine v_iast (j := 1) (w' := wM ad cI cZ le la kd fs sc mi bh mz oo ie mo mp (nI 0) mq ms mt mc (nowOf A) (upd (upd lf 0 (oI (hb A 0))) 1 (oI (hb A 1))) he pi ot bf ar md) 384 rfl 11 0 dX5_run_383 rfl rfl (by omega) (by decide) rfl ?_
    refine v_iinc (v := nI 2) (lv' := [(5, .int (nI 2)), (0, .ref (ad 0)), (1, .int b), (2, .int (nI n)), (3, .int (nI tk)), (4, .int (nI p))]) 387 rfl dX5_run_384 0 rfl (nI_add _ _) (Nat.le_of_ble_eq_true rfl) rfl ?_
    refine v_goto 364 dX5_run_387 (by decide) ?_
    refine v_iload 366 rfl dX5_run_364 rfl ?_
    refine v_iconst (v := nI 4) 367 rfl dX5_run_366 (by decide) ?_
    refine v_icmp_geN (a := 2) (b := 4) 390 370 rfl dX5_run_367 (by decide) (by omega) (by omega) (fun q => False.elim (by omega)) (fun c367 => ?_)
    refine v_aload_n 371 rfl dX5_run_370 rfl rfl ?_
    refine v_get (ci := 5) (C := RX5) (T := TX5) (N := 25) (v := .ref (ad 11)) 374 rfl 0 18 dX5_run_371 rfl (Nat.le_of_ble_eq_true rfl) i5 (by decide +kernel) rfl rfl ?_
    refine v_iload 376 rfl dX5_run_374 rfl ?_
    refine v_aload_n 377 rfl dX5_run_376 rfl rfl ?_
    refine v_get (ci := 5) (C := RX5) (T := TX5) (N := 25) (v := .ref (ad 10)) 380 rfl 0 17 dX5_run_377 rfl (Nat.le_of_ble_eq_true rfl) i5 (by decide +kernel) rfl rfl ?_
    refine v_iload 382 rfl dX5_run_380 rfl ?_
    refine v_iald (j := 2) (v := oI (hb A 2)) 383 rfl 10 0 dX5_run_382 rfl rfl (by omega) (by decide) (nowOf_at (by omega)) ?_
    refine v_iast (j := 2) (w' := wM ad cI cZ le la kd fs sc mi bh mz oo ie mo mp (nI 0) mq ms mt mc (nowOf A) (upd (upd (upd lf 0 (oI (hb A 0))) 1 (oI (hb A 1))) 2 (oI (hb A 2))) he pi ot bf ar md) 384 rfl 11 0 dX5_run_383 rfl rfl (by omega) (by decide) rfl ?_
    refine v_iinc (v := nI 3) (lv' := [(5, .int (nI 3)), (0, .ref (ad 0)), (1, .int b), (2, .int (nI n)), (3, .int (nI tk)), (4, .int (nI p))]) 387 rfl dX5_run_384 0 rfl (nI_add _ _) (Nat.le_of_ble_eq_true rfl) rfl ?_
    refine v_goto 364 dX5_run_387 (by decide) ?_
    refine v_iload 366 rfl dX5_run_364 rfl ?_
    refine v_iconst (v := nI 4) 367 rfl dX5_run_366 (by decide) ?_
    refine v_icmp_geN (a := 3) (b := 4) 390 370 rfl dX5_run_367 (by decide) (by omega) (by omega) (fun q => False.elim (by omega)) (fun c367 => ?_)
    refine v_aload_n 371 rfl dX5_run_370 rfl rfl ?_
    refine v_get (ci := 5) (C := RX5) (T := TX5) (N := 25) (v := .ref (ad 11)) 374 rfl 0 18 dX5_run_371 rfl (Nat.le_of_ble_eq_true rfl) i5 (by decide +kernel) rfl rfl ?_
    refine v_iload 376 rfl dX5_run_374 rfl ?_
    refine v_aload_n 377 rfl dX5_run_376 rfl rfl ?_
    refine v_get (ci := 5) (C := RX5) (T := TX5) (N := 25) (v := .ref (ad 10)) 380 rfl 0 17 dX5_run_377 rfl (Nat.le_of_ble_eq_true rfl) i5 (by decide +kernel) rfl rfl ?_
    refine v_iload 382 rfl dX5_run_380 rfl ?_
    refine v_iald (j := 3) (v := oI (hb A 3)) 383 rfl 10 0 dX5_run_382 rfl rfl (by omega) (by decide) (nowOf_at (by omega)) ?_
    refine v_iast (j := 3) (w' := wM ad cI cZ le la kd fs sc mi bh mz oo ie mo mp (nI 0) mq ms mt mc (nowOf A) (upd (upd (upd (upd lf 0 (oI (hb A 0))) 1 (oI (hb A 1))) 2 (oI (hb A 2))) 3 (oI (hb A 3))) he pi ot bf ar md) 384 rfl 11 0 dX5_run_383 rfl rfl (by omega) (by decide) rfl ?_
    refine v_iinc (v := nI 4) (lv' := [(5, .int (nI 4)), (0, .ref (ad 0)), (1, .int b), (2, .int (nI n)), (3, .int (nI tk)), (4, .int (nI p))]) 387 rfl dX5_run_384 0 rfl (nI_add _ _) (Nat.le_of_ble_eq_true rfl) rfl ?_
    refine v_goto 364 dX5_run_387 (by decide) ?_
    refine v_iload 366 rfl dX5_run_364 rfl ?_
    refine v_iconst (v := nI 4) 367 rfl dX5_run_366 (by decide) ?_
    refine v_icmp_geN (a := 4) (b := 4) 390 370 rfl dX5_run_367 (by decide) (by omega) (by omega) (fun c367 => ?_) (fun q => False.elim (by omega))
    refine v_w (w' := wM ad cI cZ le la kd fs sc mi bh mz oo ie mo mp (nI 0) mq ms mt mc (nowOf A) (nowOf A) he pi ot bf ar md) (by rw [now4 hlf A rfl rfl rfl rfl]) ?_
    refine v_aload_n 391 rfl dX5_run_390 rfl rfl ?_
    refine v_aload_n 392 rfl dX5_run_391 rfl rfl ?_
    refine v_get (ci := 5) (C := RX5) (T := TX5) (N := 25) (v := .int (nI 0)) 395 rfl 0 12 dX5_run_392 rfl (Nat.le_of_ble_eq_true rfl) i5 (by decide +kernel) rfl rfl ?_
    refine v_if_leN (a := 0) 402 398 rfl dX5_run_395 (by decide) (by omega) (fun c395 => ?_) (fun q => False.elim (by omega))
    refine v_iconst (v := nI 0) 403 rfl dX5_run_402 (by decide) ?_
    refine v_put (ci := 5) (C := RX5) (T := TX5) (ty0 := tyX5) (N := 25) (ty := .int) (w' := wM ad cI cZ le la kd fs sc mi bh mz oo ie mo mp (nI 0) mq ms (nI 0) mc (nowOf A) (nowOf A) he pi ot bf ar md) 406 rfl 0 15 dX5_run_403 rfl (Nat.le_of_ble_eq_true rfl) i5 tyX5_ok nmX5 (by decide +kernel) rfl (by decide +kernel) rfl rfl rfl (Nat.le_of_ble_eq_true rfl) rfl ?_
    refine v_aload_n 407 rfl dX5_run_406 rfl rfl ?_
    refine v_get (ci := 5) (C := RX5) (T := TX5) (N := 25) (v := .int (nI ms)) 410 rfl 0 14 dX5_run_407 rfl (Nat.le_of_ble_eq_true rfl) i5 (by decide +kernel) rfl rfl ?_
    exact v_iretE dX5_run_410 rfl (by rw [z] at hPr; exact hPr)
  · have z : leav fb A 4 0 = 7 := by have := leav_v fb A 4 0; simp at c344; omega
    refine v_aload_n 348 rfl dX5_run_347 rfl rfl ?_
    refine v_bipush (v := nI 7) 350 rfl dX5_run_348 (by decide) ?_
    refine v_put (ci := 5) (C := RX5) (T := TX5) (ty0 := tyX5) (N := 25) (ty := .int) (w' := wM ad cI cZ le la kd fs sc mi bh mz oo ie mo mp (nI 7) mq ms mt mc (nowOf A) lf he pi ot bf ar md) 353 rfl 0 12 dX5_run_350 rfl (Nat.le_of_ble_eq_true rfl) i5 tyX5_ok nmX5 (by decide +kernel) rfl (by decide +kernel) rfl rfl rfl (Nat.le_of_ble_eq_true rfl) rfl ?_
    refine v_aload_n 354 rfl dX5_run_353 rfl rfl ?_
    refine v_aload_n 355 rfl dX5_run_354 rfl rfl ?_
    refine v_get (ci := 5) (C := RX5) (T := TX5) (N := 25) (v := .int (nI mz)) 358 rfl 0 7 dX5_run_355 rfl (Nat.le_of_ble_eq_true rfl) i5 (by decide +kernel) rfl rfl ?_
    refine v_put (ci := 5) (C := RX5) (T := TX5) (ty0 := tyX5) (N := 25) (ty := .int) (w' := wM ad cI cZ le la kd fs sc mi bh mz oo ie mo mp (nI 7) (nI mz) ms mt mc (nowOf A) lf he pi ot bf ar md) 361 rfl 0 13 dX5_run_358 rfl (Nat.le_of_ble_eq_true rfl) i5 tyX5_ok nmX5 (by decide +kernel) rfl (by decide +kernel) rfl rfl rfl (Nat.le_of_ble_eq_true rfl) rfl ?_
    refine v_iconst (v := nI 0) 362 rfl dX5_run_361 (by decide) ?_
    refine v_istore (lv' := [(5, .int (nI 0)), (0, .ref (ad 0)), (1, .int b), (2, .int (nI n)), (3, .int (nI tk)), (4, .int (nI p))]) 364 rfl dX5_run_362 (Nat.le_of_ble_eq_true rfl) rfl ?_
    refine v_iload 366 rfl dX5_run_364 rfl ?_
    refine v_iconst (v := nI 4) 367 rfl dX5_run_366 (by decide) ?_
    refine v_icmp_geN (a := 0) (b := 4) 390 370 rfl dX5_run_367 (by decide) (by omega) (by omega) (fun q => False.elim (by omega)) (fun c367 => ?_)
    refine v_aload_n 371 rfl dX5_run_370 rfl rfl ?_
    refine v_get (ci := 5) (C := RX5) (T := TX5) (N := 25) (v := .ref (ad 11)) 374 rfl 0 18 dX5_run_371 rfl (Nat.le_of_ble_eq_true rfl) i5 (by decide +kernel) rfl rfl ?_
    refine v_iload 376 rfl dX5_run_374 rfl ?_
    refine v_aload_n 377 rfl dX5_run_376 rfl rfl ?_
    refine v_get (ci := 5) (C := RX5) (T := TX5) (N := 25) (v := .ref (ad 10)) 380 rfl 0 17 dX5_run_377 rfl (Nat.le_of_ble_eq_true rfl) i5 (by decide +kernel) rfl rfl ?_
    refine v_iload 382 rfl dX5_run_380 rfl ?_
    refine v_iald (j := 0) (v := oI (hb A 0)) 383 rfl 10 0 dX5_run_382 rfl rfl (by omega) (by decide) (nowOf_at (by omega)) ?_
    refine v_iast (j := 0) (w' := wM ad cI cZ le la kd fs sc mi bh mz oo ie mo mp (nI 7) (nI mz) ms mt mc (nowOf A) (upd lf 0 (oI (hb A 0))) he pi ot bf ar md) 384 rfl 11 0 dX5_run_383 rfl rfl (by omega) (by decide) rfl ?_
    refine v_iinc (v := nI 1) (lv' := [(5, .int (nI 1)), (0, .ref (ad 0)), (1, .int b), (2, .int (nI n)), (3, .int (nI tk)), (4, .int (nI p))]) 387 rfl dX5_run_384 0 rfl (nI_add _ _) (Nat.le_of_ble_eq_true rfl) rfl ?_
    refine v_goto 364 dX5_run_387 (by decide) ?_
    refine v_iload 366 rfl dX5_run_364 rfl ?_
    refine v_iconst (v := nI 4) 367 rfl dX5_run_366 (by decide) ?_
    refine v_icmp_geN (a := 1) (b := 4) 390 370 rfl dX5_run_367 (by decide) (by omega) (by omega) (fun q => False.elim (by omega)) (fun c367 => ?_)
    refine v_aload_n 371 rfl dX5_run_370 rfl rfl ?_
    refine v_get (ci := 5) (C := RX5) (T := TX5) (N := 25) (v := .ref (ad 11)) 374 rfl 0 18 dX5_run_371 rfl (Nat.le_of_ble_eq_true rfl) i5 (by decide +kernel) rfl rfl ?_
    refine v_iload 376 rfl dX5_run_374 rfl ?_
    refine v_aload_n 377 rfl dX5_run_376 rfl rfl ?_
    refine v_get (ci := 5) (C := RX5) (T := TX5) (N := 25) (v := .ref (ad 10)) 380 rfl 0 17 dX5_run_377 rfl (Nat.le_of_ble_eq_true rfl) i5 (by decide +kernel) rfl rfl ?_
    refine v_iload 382 rfl dX5_run_380 rfl ?_
    refine v_iald (j := 1) (v := oI (hb A 1)) 383 rfl 10 0 dX5_run_382 rfl rfl (by omega) (by decide) (nowOf_at (by omega)) ?_
    refine v_iast (j := 1) (w' := wM ad cI cZ le la kd fs sc mi bh mz oo ie mo mp (nI 7) (nI mz) ms mt mc (nowOf A) (upd (upd lf 0 (oI (hb A 0))) 1 (oI (hb A 1))) he pi ot bf ar md) 384 rfl 11 0 dX5_run_383 rfl rfl (by omega) (by decide) rfl ?_
    refine v_iinc (v := nI 2) (lv' := [(5, .int (nI 2)), (0, .ref (ad 0)), (1, .int b), (2, .int (nI n)), (3, .int (nI tk)), (4, .int (nI p))]) 387 rfl dX5_run_384 0 rfl (nI_add _ _) (Nat.le_of_ble_eq_true rfl) rfl ?_
    refine v_goto 364 dX5_run_387 (by decide) ?_
    refine v_iload 366 rfl dX5_run_364 rfl ?_
    refine v_iconst (v := nI 4) 367 rfl dX5_run_366 (by decide) ?_
    refine v_icmp_geN (a := 2) (b := 4) 390 370 rfl dX5_run_367 (by decide) (by omega) (by omega) (fun q => False.elim (by omega)) (fun c367 => ?_)
    refine v_aload_n 371 rfl dX5_run_370 rfl rfl ?_
    refine v_get (ci := 5) (C := RX5) (T := TX5) (N := 25) (v := .ref (ad 11)) 374 rfl 0 18 dX5_run_371 rfl (Nat.le_of_ble_eq_true rfl) i5 (by decide +kernel) rfl rfl ?_
    refine v_iload 376 rfl dX5_run_374 rfl ?_
    refine v_aload_n 377 rfl dX5_run_376 rfl rfl ?_
    refine v_get (ci := 5) (C := RX5) (T := TX5) (N := 25) (v := .ref (ad 10)) 380 rfl 0 17 dX5_run_377 rfl (Nat.le_of_ble_eq_true rfl) i5 (by decide +kernel) rfl rfl ?_
    refine v_iload 382 rfl dX5_run_380 rfl ?_
    refine v_iald (j := 2) (v := oI (hb A 2)) 383 rfl 10 0 dX5_run_382 rfl rfl (by omega) (by decide) (nowOf_at (by omega)) ?_
    refine v_iast (j := 2) (w' := wM ad cI cZ le la kd fs sc mi bh mz oo ie mo mp (nI 7) (nI mz) ms mt mc (nowOf A) (upd (upd (upd lf 0 (oI (hb A 0))) 1 (oI (hb A 1))) 2 (oI (hb A 2))) he pi ot bf ar md) 384 rfl 11 0 dX5_run_383 rfl rfl (by omega) (by decide) rfl ?_
    refine v_iinc (v := nI 3) (lv' := [(5, .int (nI 3)), (0, .ref (ad 0)), (1, .int b), (2, .int (nI n)), (3, .int (nI tk)), (4, .int (nI p))]) 387 rfl dX5_run_384 0 rfl (nI_add _ _) (Nat.le_of_ble_eq_true rfl) rfl ?_
    refine v_goto 364 dX5_run_387 (by decide) ?_
    refine v_iload 366 rfl dX5_run_364 rfl ?_
    refine v_iconst (v := nI 4) 367 rfl dX5_run_366 (by decide) ?_
    refine v_icmp_geN (a := 3) (b := 4) 390 370 rfl dX5_run_367 (by decide) (by omega) (by omega) (fun q => False.elim (by omega)) (fun c367 => ?_)
    refine v_aload_n 371 rfl dX5_run_370 rfl rfl ?_
    refine v_get (ci := 5) (C := RX5) (T := TX5) (N := 25) (v := .ref (ad 11)) 374 rfl 0 18 dX5_run_371 rfl (Nat.le_of_ble_eq_true rfl) i5 (by decide +kernel) rfl rfl ?_
    refine v_iload 376 rfl dX5_run_374 rfl ?_
    refine v_aload_n 377 rfl dX5_run_376 rfl rfl ?_
    refine v_get (ci := 5) (C := RX5) (T := TX5) (N := 25) (v := .ref (ad 10)) 380 rfl 0 17 dX5_run_377 rfl (Nat.le_of_ble_eq_true rfl) i5 (by decide +kernel) rfl rfl ?_
    refine v_iload 382 rfl dX5_run_380 rfl ?_
    refine v_iald (j := 3) (v := oI (hb A 3)) 383 rfl 10 0 dX5_run_382 rfl rfl (by omega) (by decide) (nowOf_at (by omega)) ?_
    refine v_iast (j := 3) (w' := wM ad cI cZ le la kd fs sc mi bh mz oo ie mo mp (nI 7) (nI mz) ms mt mc (nowOf A) (upd (upd (upd (upd lf 0 (oI (hb A 0))) 1 (oI (hb A 1))) 2 (oI (hb A 2))) 3 (oI (hb A 3))) he pi ot bf ar md) 384 rfl 11 0 dX5_run_383 rfl rfl (by omega) (by decide) rfl ?_
    refine v_iinc (v := nI 4) (lv' := [(5, .int (nI 4)), (0, .ref (ad 0)), (1, .int b), (2, .int (nI n)), (3, .int (nI tk)), (4, .int (nI p))]) 387 rfl dX5_run_384 0 rfl (nI_add _ _) (Nat.le_of_ble_eq_true rfl) rfl ?_
    refine v_goto 364 dX5_run_387 (by decide) ?_
    refine v_iload 366 rfl dX5_run_364 rfl ?_
    refine v_iconst (v := nI 4) 367 rfl dX5_run_366 (by decide) ?_
    refine v_icmp_geN (a := 4) (b := 4) 390 370 rfl dX5_run_367 (by decide) (by omega) (by omega) (fun c367 => ?_) (fun q => False.elim (by omega))
    refine v_w (w' := wM ad cI cZ le la kd fs sc mi bh mz oo ie mo mp (nI 7) (nI mz) ms mt mc (nowOf A) (nowOf A) he pi ot bf ar md) (by rw [now4 hlf A rfl rfl rfl rfl]) ?_
    refine v_aload_n 391 rfl dX5_run_390 rfl rfl ?_
    refine v_aload_n 392 rfl dX5_run_391 rfl rfl ?_
    refine v_get (ci := 5) (C := RX5) (T := TX5) (N := 25) (v := .int (nI 7)) 395 rfl 0 12 dX5_run_392 rfl (Nat.le_of_ble_eq_true rfl) i5 (by decide +kernel) rfl rfl ?_
    refine v_if_leN (a := 7) 402 398 rfl dX5_run_395 (by decide) (by omega) (fun q => False.elim (by omega)) (fun c395 => ?_)
    refine v_iconst (v := nI 2) 399 rfl dX5_run_398 (by decide) ?_
    refine v_goto 403 dX5_run_399 (by decide) ?_
    refine v_put (ci := 5) (C := RX5) (T := TX5) (ty0 := tyX5) (N := 25) (ty := .int) (w' := wM ad cI cZ le la kd fs sc mi bh mz oo ie mo mp (nI 7) (nI mz) ms (nI 2) mc (nowOf A) (nowOf A) he pi ot bf ar md) 406 rfl 0 15 dX5_run_403 rfl (Nat.le_of_ble_eq_true rfl) i5 tyX5_ok nmX5 (by decide +kernel) rfl (by decide +kernel) rfl rfl rfl (Nat.le_of_ble_eq_true rfl) rfl ?_
    refine v_aload_n 407 rfl dX5_run_406 rfl rfl ?_
    refine v_get (ci := 5) (C := RX5) (T := TX5) (N := 25) (v := .int (nI ms)) 410 rfl 0 14 dX5_run_407 rfl (Nat.le_of_ble_eq_true rfl) i5 (by decide +kernel) rfl rfl ?_
    exact v_iretE dX5_run_410 rfl (by rw [z] at hPr; exact hPr)

set_option maxRecDepth 100000 in
set_option maxHeartbeats 4000000 in
theorem mr_begin {D : va_G} {cI cZ cJ : ClassId} {l : Launch} {ad : Nat → Nat} {le : Nat → Int32} {la : Nat → Int32} {kd : Nat → Int32} {fs : Nat → Int32} {sc : Nat → Int32} {mi : Nat → Int32} {bh : Nat → Int32} {mz : Nat} {oo : Nat → Int32} {ie : Nat → Int32} {mo : Nat} {mp : Int32} {mf : Int32} {mq : Int32} {ms : Nat} {mt : Int32} {mc : Int32} {no : Nat → Int32} {lf : Nat → Int32} {he : Nat → Int32} {pi : Nat → Int32} {ot : Nat → Int32} {bf : Nat → Int32} {ar : Nat → Int32} {md : Nat} (b : Int32) (n : Nat) (hn : n ≤ 32) (hmo : mo = 0) (hno : ∀ j, 4 ≤ j → no j = 0) {w0 : va_W} {Pr : Option Value → va_W → Prop} (h : V (xN D (tyL cI cZ cJ) l 1 25 w0 Pr) (cX5_run, wsX5_run, yX5_run.cls, 8, (some .int), yX5_run.name) 0 0 (wM ad cI cZ le la kd fs sc mi bh mz oo ie mo mp (nI 0) (-1) 0 (nI 1) mc (nowOf 0) lf he pi ot bf ar 0) 51 [(0, .ref (ad 0)), (1, .int b), (2, .int (nI n)), (3, .int (nI 0)), (4, .int (nI 0)), (5, .int (nI 0))] []) : V (xN D (tyL cI cZ cJ) l 1 25 w0 Pr) (cX5_run, wsX5_run, yX5_run.cls, 8, (some .int), yX5_run.name) 0 0 (wM ad cI cZ le la kd fs sc mi bh mz oo ie mo mp mf mq ms mt mc no lf he pi ot bf ar md) 0 [(0, .ref (ad 0)), (1, .int b), (2, .int (nI n))] [] := by
  have i5 : ∀ w ∈ u_ws RX5 TX5 25, w ∈ wsX5_run := by decide +kernel
  refine v_aload_n 1 rfl dX5_run_0 rfl rfl ?_
  refine v_iconst (v := nI 1) 2 rfl dX5_run_1 (by decide) ?_
  refine v_put (ci := 5) (C := RX5) (T := TX5) (ty0 := tyX5) (N := 25) (ty := .int) (w' := wM ad cI cZ le la kd fs sc mi bh mz oo ie mo mp mf mq ms (nI 1) mc no lf he pi ot bf ar md) 5 rfl 0 15 dX5_run_2 rfl (Nat.le_of_ble_eq_true rfl) i5 tyX5_ok nmX5 (by decide +kernel) rfl (by decide +kernel) rfl rfl rfl (Nat.le_of_ble_eq_true rfl) rfl ?_
  refine v_iload_n 6 rfl dX5_run_5 rfl rfl ?_
  refine v_if_ltN (a := n) 22 9 rfl dX5_run_6 (by decide) (by omega) ?_
  refine v_iload_n 10 rfl dX5_run_9 rfl rfl ?_
  refine v_bipush (v := nI 32) 12 rfl dX5_run_10 (by decide) ?_
  refine v_icmp_gtN (a := n) (b := 32) 22 15 rfl dX5_run_12 (by decide) (by omega) (by omega) (fun q => False.elim (by omega)) (fun c12 => ?_)
  refine v_aload_n 16 rfl dX5_run_15 rfl rfl ?_
  refine v_get (ci := 5) (C := RX5) (T := TX5) (N := 25) (v := .int (nI mo)) 19 rfl 0 10 dX5_run_16 rfl (Nat.le_of_ble_eq_true rfl) i5 (by decide +kernel) rfl rfl ?_
  refine v_if_leN (a := mo) 24 22 rfl dX5_run_19 (by decide) (by omega) (fun c19 => ?_) (fun q => False.elim (by omega))
  refine v_aload_n 25 rfl dX5_run_24 rfl rfl ?_
  refine v_callF (n := 0) (q0 := 0) (ci := 5) 28 rfl (m_nothing hno) gX5_run_X5_nothing rfl (by decide +kernel) rfl ⟨(Nat.le_of_ble_eq_true rfl), (Nat.le_of_ble_eq_true rfl)⟩ rfl (Nat.le_of_ble_eq_true rfl) rfl rfl rfl dX5_run_25 ⟨Nat.zero_le _, Nat.zero_le _⟩ rfl ?_
  refine v_st (st' := []) rfl ?_
  refine v_aload_n 29 rfl dX5_run_28 rfl rfl ?_
  refine v_iconst (v := nI 0) 30 rfl dX5_run_29 (by decide) ?_
  refine v_put (ci := 5) (C := RX5) (T := TX5) (ty0 := tyX5) (N := 25) (ty := .int) (w' := wM ad cI cZ le la kd fs sc mi bh mz oo ie mo mp mf mq 0 (nI 1) mc (nowOf 0) lf he pi ot bf ar 0) 33 rfl 0 14 dX5_run_30 rfl (Nat.le_of_ble_eq_true rfl) i5 tyX5_ok nmX5 (by decide +kernel) rfl (by decide +kernel) rfl rfl rfl (Nat.le_of_ble_eq_true rfl) rfl ?_
  refine v_aload_n 34 rfl dX5_run_33 rfl rfl ?_
  refine v_iconst (v := nI 0) 35 rfl dX5_run_34 (by decide) ?_
  refine v_put (ci := 5) (C := RX5) (T := TX5) (ty0 := tyX5) (N := 25) (ty := .int) (w' := wM ad cI cZ le la kd fs sc mi bh mz oo ie mo mp (nI 0) mq 0 (nI 1) mc (nowOf 0) lf he pi ot bf ar 0) 38 rfl 0 12 dX5_run_35 rfl (Nat.le_of_ble_eq_true rfl) i5 tyX5_ok nmX5 (by decide +kernel) rfl (by decide +kernel) rfl rfl rfl (Nat.le_of_ble_eq_true rfl) rfl ?_
  refine v_aload_n 39 rfl dX5_run_38 rfl rfl ?_
  refine v_iconst (v := -1) 40 rfl dX5_run_39 (by decide) ?_
  refine v_put (ci := 5) (C := RX5) (T := TX5) (ty0 := tyX5) (N := 25) (ty := .int) (w' := wM ad cI cZ le la kd fs sc mi bh mz oo ie mo mp (nI 0) (-1) 0 (nI 1) mc (nowOf 0) lf he pi ot bf ar 0) 43 rfl 0 13 dX5_run_40 rfl (Nat.le_of_ble_eq_true rfl) i5 tyX5_ok nmX5 (by decide +kernel) rfl (by decide +kernel) rfl rfl rfl (Nat.le_of_ble_eq_true rfl) rfl ?_
  refine v_iconst (v := nI 0) 44 rfl dX5_run_43 (by decide) ?_
  refine v_istore_n (lv' := [(3, .int (nI 0)), (0, .ref (ad 0)), (1, .int b), (2, .int (nI n))]) 45 rfl dX5_run_44 rfl (Nat.le_of_ble_eq_true rfl) rfl ?_
  refine v_iconst (v := nI 0) 46 rfl dX5_run_45 (by decide) ?_
  refine v_istore (lv' := [(4, .int (nI 0)), (3, .int (nI 0)), (0, .ref (ad 0)), (1, .int b), (2, .int (nI n))]) 48 rfl dX5_run_46 (Nat.le_of_ble_eq_true rfl) rfl ?_
  refine v_iconst (v := nI 0) 49 rfl dX5_run_48 (by decide) ?_
  refine v_istore (lv' := [(5, .int (nI 0)), (4, .int (nI 0)), (3, .int (nI 0)), (0, .ref (ad 0)), (1, .int b), (2, .int (nI n))]) 51 rfl dX5_run_49 (Nat.le_of_ble_eq_true rfl) rfl ?_
  refine v_lv [3, 4, 5, 2, 1, 0] rfl ?_
  exact h

set_option maxRecDepth 100000 in
set_option maxHeartbeats 4000000 in
theorem mr_no {D : va_G} {cI cZ cJ : ClassId} {l : Launch} {ad : Nat → Nat} {le : Nat → Int32} {la : Nat → Int32} {kd : Nat → Int32} {fs : Nat → Int32} {sc : Nat → Int32} {mi : Nat → Int32} {bh : Nat → Int32} {mz : Nat} {oo : Nat → Int32} {ie : Nat → Int32} {mo : Nat} {mp : Int32} {mf : Int32} {mq : Int32} {ms : Nat} {mt : Int32} {mc : Int32} {no : Nat → Int32} {lf : Nat → Int32} {he : Nat → Int32} {pi : Nat → Int32} {ot : Nat → Int32} {bf : Nat → Int32} {ar : Nat → Int32} {md : Nat} (b c : Int32) (hmo6 : mo ≤ 6) (hc : c < 0 ∨ nI 32 < c ∨ 0 < mo) {w0 : va_W} {Pr : Option Value → va_W → Prop} (hPr : Pr (some (.int (nI 0))) (wM ad cI cZ le la kd fs sc mi bh mz oo ie mo mp mf mq ms (nI 1) mc no lf he pi ot bf ar md)) : V (xN D (tyL cI cZ cJ) l 1 25 w0 Pr) (cX5_run, wsX5_run, yX5_run.cls, 8, (some .int), yX5_run.name) 0 0 (wM ad cI cZ le la kd fs sc mi bh mz oo ie mo mp mf mq ms mt mc no lf he pi ot bf ar md) 0 [(0, .ref (ad 0)), (1, .int b), (2, .int c)] [] := by
  have i5 : ∀ w ∈ u_ws RX5 TX5 25, w ∈ wsX5_run := by decide +kernel
  refine v_aload_n 1 rfl dX5_run_0 rfl rfl ?_
  refine v_iconst (v := nI 1) 2 rfl dX5_run_1 (by decide) ?_
  refine v_put (ci := 5) (C := RX5) (T := TX5) (ty0 := tyX5) (N := 25) (ty := .int) (w' := wM ad cI cZ le la kd fs sc mi bh mz oo ie mo mp mf mq ms (nI 1) mc no lf he pi ot bf ar md) 5 rfl 0 15 dX5_run_2 rfl (Nat.le_of_ble_eq_true rfl) i5 tyX5_ok nmX5 (by decide +kernel) rfl (by decide +kernel) rfl rfl rfl (Nat.le_of_ble_eq_true rfl) rfl ?_
  refine v_iload_n 6 rfl dX5_run_5 rfl rfl ?_
  refine v_if_lt 22 9 rfl dX5_run_6 (by decide) (fun c6 => ?_) (fun c6 => ?_)
  · refine v_iconst (v := nI 0) 23 rfl dX5_run_22 (by decide) ?_
    exact v_iretE dX5_run_23 rfl hPr
  · refine v_iload_n 10 rfl dX5_run_9 rfl rfl ?_
    refine v_bipush (v := nI 32) 12 rfl dX5_run_10 (by decide) ?_
    refine v_icmp_gt 22 15 rfl dX5_run_12 (by decide) (fun c12 => ?_) (fun c12 => ?_)
    · refine v_iconst (v := nI 0) 23 rfl dX5_run_22 (by decide) ?_
      exact v_iretE dX5_run_23 rfl hPr
    · refine v_aload_n 16 rfl dX5_run_15 rfl rfl ?_
      refine v_get (ci := 5) (C := RX5) (T := TX5) (N := 25) (v := .int (nI mo)) 19 rfl 0 10 dX5_run_16 rfl (Nat.le_of_ble_eq_true rfl) i5 (by decide +kernel) rfl rfl ?_
      refine v_if_leN (a := mo) 24 22 rfl dX5_run_19 (by decide) (by omega) (fun q => False.elim (by rcases hc with h1 | h1 | h1; exact absurd h1 c6; exact absurd h1 c12; omega)) (fun c19 => ?_)
      refine v_iconst (v := nI 0) 23 rfl dX5_run_22 (by decide) ?_
      exact v_iretE dX5_run_23 rfl hPr

