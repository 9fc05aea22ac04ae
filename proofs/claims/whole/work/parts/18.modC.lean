theorem m_blockEnd {D : va_G} {cI cZ cJ : ClassId} {l : Launch} {ad : Nat → Nat} {le : Nat → Int32} {la : Nat → Int32} {kd : Nat → Int32} {fs : Nat → Int32} {sc : Nat → Int32} {mi : Nat → Int32} {bh : Nat → Int32} {mz : Nat} {oo : Nat → Int32} {ie : Nat → Int32} {mo : Nat} {mp : Int32} {mf : Int32} {mq : Int32} {ms : Nat} {mt : Int32} {mc : Int32} {no : Nat → Int32} {lf : Nat → Int32} {he : Nat → Int32} {pi : Nat → Int32} {ot : Nat → Int32} {bf : Nat → Int32} {ar : Nat → Int32} {md : Nat} (k i e : Nat) (hmd : md = k + 1) (hk : k < 6) (hp : pi k = nI i) (hi : i < 40) (h : (kd i = nI 4 ∧ ot k = bI false ∧ mi i = nI e) ∨ (kd i = nI 4 ∧ ot k = bI true ∧ bh i = nI e) ∨ (kd i = nI 5 ∧ bh i = nI e)) : KM D (tyL cI cZ cJ) l yX5_blockEnd wsX5_blockEnd 0 0 [.ref (ad 0)] (wM ad cI cZ le la kd fs sc mi bh mz oo ie mo mp mf mq ms mt mc no lf he pi ot bf ar md) (some (.int (nI e))) (wM ad cI cZ le la kd fs sc mi bh mz oo ie mo mp mf mq ms mt mc no lf he pi ot bf ar md) := by
  rcases h with ⟨h1, h2, h3⟩ | ⟨h1, h2, h3⟩ | ⟨h1, h3⟩
  · exact m_blockEndT k i e hmd hk hp hi h1 h2 h3
  · exact m_blockEndE k i e hmd hk hp hi h1 h2 h3
  · exact m_blockEndW k i e hmd hk hp hi h1 h3

set_option maxRecDepth 100000 in
set_option maxHeartbeats 4000000 in
theorem mc_pre0 {D : va_G} {cI cZ cJ : ClassId} {l : Launch} {ad : Nat → Nat} {le : Nat → Int32} {la : Nat → Int32} {kd : Nat → Int32} {fs : Nat → Int32} {sc : Nat → Int32} {mi : Nat → Int32} {bh : Nat → Int32} {mz : Nat} {oo : Nat → Int32} {ie : Nat → Int32} {mo : Nat} {mp : Int32} {mf : Int32} {mq : Int32} {ms : Nat} {mt : Int32} {mc : Int32} {no : Nat → Int32} {lf : Nat → Int32} {he : Nat → Int32} {pi : Nat → Int32} {ot : Nat → Int32} {bf : Nat → Int32} {ar : Nat → Int32} {md : Nat} (p ro : Nat) (hz : mz ≤ 40) (hro : ro < 200) (hp : p < mz) (hmd : md = 0) {w0 : va_W} {Pr : Option Value → va_W → Prop} (h : V (xN D (tyL cI cZ cJ) l 2 46 w0 Pr) (cX5_check, wsX5_check, yX5_check.cls, 5, (some .int), yX5_check.name) 0 0 (wM ad cI cZ le la kd fs sc mi bh mz oo ie mo mp mf mq ms mt mc no lf he pi ot bf ar md) 110 [(0, .ref (ad 0)), (1, .int (nI p)), (2, .int (nI 0)), (3, .int (nI ro))] []) : V (xN D (tyL cI cZ cJ) l 2 46 w0 Pr) (cX5_check, wsX5_check, yX5_check.cls, 5, (some .int), yX5_check.name) 0 0 (wM ad cI cZ le la kd fs sc mi bh mz oo ie mo mp mf mq ms mt mc no lf he pi ot bf ar md) 61 [(0, .ref (ad 0)), (1, .int (nI p)), (2, .int (nI 0)), (3, .int (nI ro))] [] := by
  have i5 : ∀ w ∈ u_ws RX5 TX5 25, w ∈ wsX5_check := by decide +kernel
  refine v_iload_n 62 rfl dX5_check_61 rfl rfl ?_
  refine v_sipush (v := nI 200) 65 rfl dX5_check_62 (by decide) ?_
  refine v_icmp_geN (a := ro) (b := 200) 243 68 rfl dX5_check_65 (by decide) (by omega) (by omega) (fun q => False.elim (by omega)) (fun c65 => ?_)
  refine v_iload_n 69 rfl dX5_check_68 rfl rfl ?_
  refine v_if_neN (a := 0) 243 72 rfl dX5_check_69 (by decide) (by omega) (fun q => False.elim (by omega)) (fun c69 => ?_)
  refine v_iload_n 73 rfl dX5_check_72 rfl rfl ?_
  refine v_aload_n 74 rfl dX5_check_73 rfl rfl ?_
  refine v_get (ci := 5) (C := RX5) (T := TX5) (N := 25) (v := .int (nI mz)) 77 rfl 0 7 dX5_check_74 rfl (Nat.le_of_ble_eq_true rfl) i5 (by decide +kernel) rfl rfl ?_
  refine v_icmp_ltN (a := p) (b := mz) 87 80 rfl dX5_check_77 (by decide) (by omega) (by omega) (fun c77 => ?_) (fun q => False.elim (by omega))
  refine v_aload_n 88 rfl dX5_check_87 rfl rfl ?_
  refine v_get (ci := 5) (C := RX5) (T := TX5) (N := 25) (v := .int (nI md)) 91 rfl 0 24 dX5_check_88 rfl (Nat.le_of_ble_eq_true rfl) i5 (by decide +kernel) rfl rfl ?_
  refine v_if_leN (a := md) 110 94 rfl dX5_check_91 (by decide) (by omega) (fun c91 => ?_) (fun q => False.elim (by omega))
  refine v_lv [0, 1, 2, 3] rfl ?_
  exact h

set_option maxRecDepth 100000 in
set_option maxHeartbeats 4000000 in
theorem mc_pre1 {D : va_G} {cI cZ cJ : ClassId} {l : Launch} {ad : Nat → Nat} {le : Nat → Int32} {la : Nat → Int32} {kd : Nat → Int32} {fs : Nat → Int32} {sc : Nat → Int32} {mi : Nat → Int32} {bh : Nat → Int32} {mz : Nat} {oo : Nat → Int32} {ie : Nat → Int32} {mo : Nat} {mp : Int32} {mf : Int32} {mq : Int32} {ms : Nat} {mt : Int32} {mc : Int32} {no : Nat → Int32} {lf : Nat → Int32} {he : Nat → Int32} {pi : Nat → Int32} {ot : Nat → Int32} {bf : Nat → Int32} {ar : Nat → Int32} {md : Nat} (p ro : Nat) (hz : mz ≤ 40) (hro : ro < 200) (k i e : Nat) (hmd : md = k + 1) (hk : k < 6) (hp : pi k = nI i) (hi : i < 40) (hbe : (kd i = nI 4 ∧ ot k = bI false ∧ mi i = nI e) ∨ (kd i = nI 4 ∧ ot k = bI true ∧ bh i = nI e) ∨ (kd i = nI 5 ∧ bh i = nI e)) (hpz : p < mz) (hne : e ≠ p) (he2 : e ≤ 40) {w0 : va_W} {Pr : Option Value → va_W → Prop} (h : V (xN D (tyL cI cZ cJ) l 2 46 w0 Pr) (cX5_check, wsX5_check, yX5_check.cls, 5, (some .int), yX5_check.name) 0 0 (wM ad cI cZ le la kd fs sc mi bh mz oo ie mo mp mf mq ms mt mc no lf he pi ot bf ar md) 110 [(0, .ref (ad 0)), (1, .int (nI p)), (2, .int (nI 0)), (3, .int (nI ro))] []) : V (xN D (tyL cI cZ cJ) l 2 46 w0 Pr) (cX5_check, wsX5_check, yX5_check.cls, 5, (some .int), yX5_check.name) 0 0 (wM ad cI cZ le la kd fs sc mi bh mz oo ie mo mp mf mq ms mt mc no lf he pi ot bf ar md) 61 [(0, .ref (ad 0)), (1, .int (nI p)), (2, .int (nI 0)), (3, .int (nI ro))] [] := by
  have i5 : ∀ w ∈ u_ws RX5 TX5 25, w ∈ wsX5_check := by decide +kernel
  refine v_iload_n 62 rfl dX5_check_61 rfl rfl ?_
  refine v_sipush (v := nI 200) 65 rfl dX5_check_62 (by decide) ?_
  refine v_icmp_geN (a := ro) (b := 200) 243 68 rfl dX5_check_65 (by decide) (by omega) (by omega) (fun q => False.elim (by omega)) (fun c65 => ?_)
  refine v_iload_n 69 rfl dX5_check_68 rfl rfl ?_
  refine v_if_neN (a := 0) 243 72 rfl dX5_check_69 (by decide) (by omega) (fun q => False.elim (by omega)) (fun c69 => ?_)
  refine v_iload_n 73 rfl dX5_check_72 rfl rfl ?_
  refine v_aload_n 74 rfl dX5_check_73 rfl rfl ?_
  refine v_get (ci := 5) (C := RX5) (T := TX5) (N := 25) (v := .int (nI mz)) 77 rfl 0 7 dX5_check_74 rfl (Nat.le_of_ble_eq_true rfl) i5 (by decide +kernel) rfl rfl ?_
  refine v_icmp_ltN (a := p) (b := mz) 87 80 rfl dX5_check_77 (by decide) (by omega) (by omega) (fun c77 => ?_) (fun q => False.elim (by omega))
  refine v_aload_n 88 rfl dX5_check_87 rfl rfl ?_
  refine v_get (ci := 5) (C := RX5) (T := TX5) (N := 25) (v := .int (nI md)) 91 rfl 0 24 dX5_check_88 rfl (Nat.le_of_ble_eq_true rfl) i5 (by decide +kernel) rfl rfl ?_
  refine v_if_leN (a := md) 110 94 rfl dX5_check_91 (by decide) (by omega) (fun q => False.elim (by omega)) (fun c91 => ?_)
  refine v_iload_n 95 rfl dX5_check_94 rfl rfl ?_
  refine v_aload_n 96 rfl dX5_check_95 rfl rfl ?_
  refine v_callF (n := 0) (q0 := 0) (ci := 5) 99 rfl (m_blockEnd k i e hmd hk hp hi hbe) gX5_check_X5_blockEnd rfl (by decide +kernel) rfl ⟨(Nat.le_of_ble_eq_true rfl), (Nat.le_of_ble_eq_true rfl)⟩ rfl (Nat.le_of_ble_eq_true rfl) rfl rfl rfl dX5_check_96 ⟨Nat.zero_le _, Nat.zero_le _⟩ rfl ?_
  refine v_st (st' := [.int (nI e), .int (nI p)]) rfl ?_
  refine v_icmp_neN (a := p) (b := e) 110 102 rfl dX5_check_99 (by decide) (by omega) (by omega) (fun c99 => ?_) (fun q => False.elim (by omega))
  refine v_lv [0, 1, 2, 3] rfl ?_
  exact h

set_option maxRecDepth 100000 in
set_option maxHeartbeats 4000000 in
theorem mc_end1 {D : va_G} {cI cZ cJ : ClassId} {l : Launch} {ad : Nat → Nat} {le : Nat → Int32} {la : Nat → Int32} {kd : Nat → Int32} {fs : Nat → Int32} {sc : Nat → Int32} {mi : Nat → Int32} {bh : Nat → Int32} {mz : Nat} {oo : Nat → Int32} {ie : Nat → Int32} {mo : Nat} {mp : Int32} {mf : Int32} {mq : Int32} {ms : Nat} {mt : Int32} {mc : Int32} {no : Nat → Int32} {lf : Nat → Int32} {he : Nat → Int32} {pi : Nat → Int32} {ot : Nat → Int32} {bf : Nat → Int32} {ar : Nat → Int32} {md : Nat} (p ro : Nat) (hz : mz ≤ 40) (hro : ro < 200) (k i e : Nat) (hmd : md = k + 1) (hk : k < 6) (hp : pi k = nI i) (hi : i < 40) (hbe : (kd i = nI 4 ∧ ot k = bI false ∧ mi i = nI e) ∨ (kd i = nI 4 ∧ ot k = bI true ∧ bh i = nI e) ∨ (kd i = nI 5 ∧ bh i = nI e)) (hpz : p < mz) (hne : e = p) {w0 : va_W} {Pr : Option Value → va_W → Prop} (h : V (xN D (tyL cI cZ cJ) l 2 46 w0 Pr) (cX5_check, wsX5_check, yX5_check.cls, 5, (some .int), yX5_check.name) 0 0 (wM ad cI cZ le la kd fs sc mi bh mz oo ie mo mp mf mq ms mt mc no lf he pi ot bf ar md) 102 [(0, .ref (ad 0)), (1, .int (nI p)), (2, .int (nI 0)), (3, .int (nI ro))] []) : V (xN D (tyL cI cZ cJ) l 2 46 w0 Pr) (cX5_check, wsX5_check, yX5_check.cls, 5, (some .int), yX5_check.name) 0 0 (wM ad cI cZ le la kd fs sc mi bh mz oo ie mo mp mf mq ms mt mc no lf he pi ot bf ar md) 61 [(0, .ref (ad 0)), (1, .int (nI p)), (2, .int (nI 0)), (3, .int (nI ro))] [] := by
  have i5 : ∀ w ∈ u_ws RX5 TX5 25, w ∈ wsX5_check := by decide +kernel
  refine v_iload_n 62 rfl dX5_check_61 rfl rfl ?_
  refine v_sipush (v := nI 200) 65 rfl dX5_check_62 (by decide) ?_
  refine v_icmp_geN (a := ro) (b := 200) 243 68 rfl dX5_check_65 (by decide) (by omega) (by omega) (fun q => False.elim (by omega)) (fun c65 => ?_)
  refine v_iload_n 69 rfl dX5_check_68 rfl rfl ?_
  refine v_if_neN (a := 0) 243 72 rfl dX5_check_69 (by decide) (by omega) (fun q => False.elim (by omega)) (fun c69 => ?_)
  refine v_iload_n 73 rfl dX5_check_72 rfl rfl ?_
  refine v_aload_n 74 rfl dX5_check_73 rfl rfl ?_
  refine v_get (ci := 5) (C := RX5) (T := TX5) (N := 25) (v := .int (nI mz)) 77 rfl 0 7 dX5_check_74 rfl (Nat.le_of_ble_eq_true rfl) i5 (by decide +kernel) rfl rfl ?_
  refine v_icmp_ltN (a := p) (b := mz) 87 80 rfl dX5_check_77 (by decide) (by omega) (by omega) (fun c77 => ?_) (fun q => False.elim (by omega))
  refine v_aload_n 88 rfl dX5_check_87 rfl rfl ?_
  refine v_get (ci := 5) (C := RX5) (T := TX5) (N := 25) (v := .int (nI md)) 91 rfl 0 24 dX5_check_88 rfl (Nat.le_of_ble_eq_true rfl) i5 (by decide +kernel) rfl rfl ?_
  refine v_if_leN (a := md) 110 94 rfl dX5_check_91 (by decide) (by omega) (fun q => False.elim (by omega)) (fun c91 => ?_)
  refine v_iload_n 95 rfl dX5_check_94 rfl rfl ?_
  refine v_aload_n 96 rfl dX5_check_95 rfl rfl ?_
  refine v_callF (n := 0) (q0 := 0) (ci := 5) 99 rfl (m_blockEnd k i e hmd hk hp hi hbe) gX5_check_X5_blockEnd rfl (by decide +kernel) rfl ⟨(Nat.le_of_ble_eq_true rfl), (Nat.le_of_ble_eq_true rfl)⟩ rfl (Nat.le_of_ble_eq_true rfl) rfl rfl rfl dX5_check_96 ⟨Nat.zero_le _, Nat.zero_le _⟩ rfl ?_
  refine v_st (st' := [.int (nI e), .int (nI p)]) rfl ?_
  refine v_icmp_neN (a := p) (b := e) 110 102 rfl dX5_check_99 (by decide) (by omega) (by omega) (fun q => False.elim (by omega)) (fun c99 => ?_)
  refine v_lv [0, 1, 2, 3] rfl ?_
  exact h

set_option maxRecDepth 100000 in
set_option maxHeartbeats 4000000 in
theorem mc_end2 {D : va_G} {cI cZ cJ : ClassId} {l : Launch} {ad : Nat → Nat} {le : Nat → Int32} {la : Nat → Int32} {kd : Nat → Int32} {fs : Nat → Int32} {sc : Nat → Int32} {mi : Nat → Int32} {bh : Nat → Int32} {mz : Nat} {oo : Nat → Int32} {ie : Nat → Int32} {mo : Nat} {mp : Int32} {mf : Int32} {mq : Int32} {ms : Nat} {mt : Int32} {mc : Int32} {no : Nat → Int32} {lf : Nat → Int32} {he : Nat → Int32} {pi : Nat → Int32} {ot : Nat → Int32} {bf : Nat → Int32} {ar : Nat → Int32} {md : Nat} (p ro : Nat) (hz : mz ≤ 40) (hro : ro < 200) (k i e : Nat) (hmd : md = k + 1) (hk : k < 6) (hp : pi k = nI i) (hi : i < 40) (hbe : (kd i = nI 4 ∧ ot k = bI false ∧ mi i = nI e) ∨ (kd i = nI 4 ∧ ot k = bI true ∧ bh i = nI e) ∨ (kd i = nI 5 ∧ bh i = nI e)) (hpz : p = mz) (hne : e = p) {w0 : va_W} {Pr : Option Value → va_W → Prop} (h : V (xN D (tyL cI cZ cJ) l 2 46 w0 Pr) (cX5_check, wsX5_check, yX5_check.cls, 5, (some .int), yX5_check.name) 0 0 (wM ad cI cZ le la kd fs sc mi bh mz oo ie mo mp mf mq ms mt mc no lf he pi ot bf ar md) 102 [(0, .ref (ad 0)), (1, .int (nI p)), (2, .int (nI 0)), (3, .int (nI ro))] []) : V (xN D (tyL cI cZ cJ) l 2 46 w0 Pr) (cX5_check, wsX5_check, yX5_check.cls, 5, (some .int), yX5_check.name) 0 0 (wM ad cI cZ le la kd fs sc mi bh mz oo ie mo mp mf mq ms mt mc no lf he pi ot bf ar md) 61 [(0, .ref (ad 0)), (1, .int (nI p)), (2, .int (nI 0)), (3, .int (nI ro))] [] := by
  have i5 : ∀ w ∈ u_ws RX5 TX5 25, w ∈ wsX5_check := by decide +kernel
  refine v_iload_n 62 rfl dX5_check_61 rfl rfl ?_
  refine v_sipush (v := nI 200) 65 rfl dX5_check_62 (by decide) ?_
  refine v_icmp_geN (a := ro) (b := 200) 243 68 rfl dX5_check_65 (by decide) (by omega) (by omega) (fun q => False.elim (by omega)) (fun c65 => ?_)
  refine v_iload_n 69 rfl dX5_check_68 rfl rfl ?_
  refine v_if_neN (a := 0) 243 72 rfl dX5_check_69 (by decide) (by omega) (fun q => False.elim (by omega)) (fun c69 => ?_)
  refine v_iload_n 73 rfl dX5_check_72 rfl rfl ?_
  refine v_aload_n 74 rfl dX5_check_73 rfl rfl ?_
  refine v_get (ci := 5) (C := RX5) (T := TX5) (N := 25) (v := .int (nI mz)) 77 rfl 0 7 dX5_check_74 rfl (Nat.le_of_ble_eq_true rfl) i5 (by decide +kernel) rfl rfl ?_
  refine v_icmp_ltN (a := p) (b := mz) 87 80 rfl dX5_check_77 (by decide) (by omega) (by omega) (fun q => False.elim (by omega)) (fun c77 => ?_)
  refine v_aload_n 81 rfl dX5_check_80 rfl rfl ?_
  refine v_get (ci := 5) (C := RX5) (T := TX5) (N := 25) (v := .int (nI md)) 84 rfl 0 24 dX5_check_81 rfl (Nat.le_of_ble_eq_true rfl) i5 (by decide +kernel) rfl rfl ?_
  refine v_if_leN (a := md) 243 87 rfl dX5_check_84 (by decide) (by omega) (fun q => False.elim (by omega)) (fun c84 => ?_)
  refine v_aload_n 88 rfl dX5_check_87 rfl rfl ?_
  refine v_get (ci := 5) (C := RX5) (T := TX5) (N := 25) (v := .int (nI md)) 91 rfl 0 24 dX5_check_88 rfl (Nat.le_of_ble_eq_true rfl) i5 (by decide +kernel) rfl rfl ?_
  refine v_if_leN (a := md) 110 94 rfl dX5_check_91 (by decide) (by omega) (fun q => False.elim (by omega)) (fun c91 => ?_)
  refine v_iload_n 95 rfl dX5_check_94 rfl rfl ?_
  refine v_aload_n 96 rfl dX5_check_95 rfl rfl ?_
  refine v_callF (n := 0) (q0 := 0) (ci := 5) 99 rfl (m_blockEnd k i e hmd hk hp hi hbe) gX5_check_X5_blockEnd rfl (by decide +kernel) rfl ⟨(Nat.le_of_ble_eq_true rfl), (Nat.le_of_ble_eq_true rfl)⟩ rfl (Nat.le_of_ble_eq_true rfl) rfl rfl rfl dX5_check_96 ⟨Nat.zero_le _, Nat.zero_le _⟩ rfl ?_
  refine v_st (st' := [.int (nI e), .int (nI p)]) rfl ?_
  refine v_icmp_neN (a := p) (b := e) 110 102 rfl dX5_check_99 (by decide) (by omega) (by omega) (fun q => False.elim (by omega)) (fun c99 => ?_)
  refine v_lv [0, 1, 2, 3] rfl ?_
  exact h

set_option maxRecDepth 100000 in
set_option maxHeartbeats 4000000 in
theorem mc_simple {D : va_G} {cI cZ cJ : ClassId} {l : Launch} {ad : Nat → Nat} {le : Nat → Int32} {la : Nat → Int32} {kd : Nat → Int32} {fs : Nat → Int32} {sc : Nat → Int32} {mi : Nat → Int32} {bh : Nat → Int32} {mz : Nat} {oo : Nat → Int32} {ie : Nat → Int32} {mo : Nat} {mp : Int32} {mf : Int32} {mq : Int32} {ms : Nat} {mt : Int32} {mc : Int32} {lf : Nat → Int32} {he : Nat → Int32} {pi : Nat → Int32} {ot : Nat → Int32} {bf : Nat → Int32} {ar : Nat → Int32} {md : Nat} (tn : Nat → Nat) (fb : Nat → Bool) (p ro d v x A : Nat) (hp : p < 40) (hv : v < 4) (hx : x < 4) (hA : Okh A) (hf : fs p = nI v) (hs : sc p = nI x) (hk : kd p = nI d) (hd : d < 4) (hx3 : d = 0 → x < 3) (hle : ∀ p s e : Nat, p < 3 → s < 5 → e < 4 → le (20 * p + 4 * s + e) = nI (tn ((8 * p + s) * 4 + e)) ∧ tn ((8 * p + s) * 4 + e) ≤ 5) (hla : ∀ p s : Nat, p < 3 → s < 5 → la (5 * p + s) = bI (fb (8 * p + s))) {w0 : va_W} {Pr : Option Value → va_W → Prop} (h : V (xN D (tyL cI cZ cJ) l 2 46 w0 Pr) (cX5_check, wsX5_check, yX5_check.cls, 5, (some .int), yX5_check.name) 0 0 (wM ad cI cZ le la kd fs sc mi bh mz oo ie mo (nI p) mf mq ms mt mc (nowOf (sim tn fb d v x A).2) lf (rowU he p A) pi ot bf ar md) 61 [(0, .ref (ad 0)), (1, .int (nI (p + 1))), (2, .int (nI ((sim tn fb d v x A).1))), (3, .int (nI (ro + 1)))] []) : V (xN D (tyL cI cZ cJ) l 2 46 w0 Pr) (cX5_check, wsX5_check, yX5_check.cls, 5, (some .int), yX5_check.name) 0 0 (wM ad cI cZ le la kd fs sc mi bh mz oo ie mo mp mf mq ms mt mc (nowOf A) lf he pi ot bf ar md) 110 [(0, .ref (ad 0)), (1, .int (nI p)), (2, .int (nI 0)), (3, .int (nI ro))] [] := by
  have i5 : ∀ w ∈ u_ws RX5 TX5 25, w ∈ wsX5_check := by decide +kernel
  refine v_iconst (v := nI 0) 111 rfl dX5_check_110 (by decide) ?_
  refine v_istore (lv' := [(4, .int (nI 0)), (0, .ref (ad 0)), (1, .int (nI p)), (2, .int (nI 0)), (3, .int (nI ro))]) 113 rfl dX5_check_111 (Nat.le_of_ble_eq_true rfl) rfl ?_
  refine v_iload 115 rfl dX5_check_113 rfl ?_
  refine v_iconst (v := nI 4) 116 rfl dX5_check_115 (by decide) ?_
  refine v_icmp_geN (a := 0) (b := 4) 143 119 rfl dX5_check_116 (by decide) (by omega) (by omega) (fun q => False.elim (by omega)) (fun c116 => ?_)
  refine v_aload_n 120 rfl dX5_check_119 rfl rfl ?_
  refine v_get (ci := 5) (C := RX5) (T := TX5) (N := 25) (v := .ref (ad 12)) 123 rfl 0 19 dX5_check_120 rfl (Nat.le_of_ble_eq_true rfl) i5 (by decide +kernel) rfl rfl ?_
  refine v_iconst (v := nI 4) 124 rfl dX5_check_123 (by decide) ?_
  refine v_iload_n 125 rfl dX5_check_124 rfl rfl ?_
  refine v_imulN (a := 4) (b := p) 126 rfl dX5_check_125 ?_
  refine v_iload 128 rfl dX5_check_126 rfl ?_
  refine v_iaddN (a := 4 * p) (b := 0) 129 rfl dX5_check_128 ?_
  refine v_aload_n 130 rfl dX5_check_129 rfl rfl ?_
  refine v_get (ci := 5) (C := RX5) (T := TX5) (N := 25) (v := .ref (ad 10)) 133 rfl 0 17 dX5_check_130 rfl (Nat.le_of_ble_eq_true rfl) i5 (by decide +kernel) rfl rfl ?_
  refine v_iload 135 rfl dX5_check_133 rfl ?_
  refine v_iald (j := 0) (v := oI (hb A 0)) 136 rfl 10 0 dX5_check_135 rfl rfl (by omega) (by decide) (nowOf_at (by omega)) ?_
  refine v_iast (j := 4 * p) (w' := wM ad cI cZ le la kd fs sc mi bh mz oo ie mo mp mf mq ms mt mc (nowOf A) lf (upd he (4 * p) (oI (hb A 0))) pi ot bf ar md) 137 rfl 12 0 dX5_check_136 rfl rfl (by omega) (by decide) rfl ?_
  refine v_iinc (v := nI 1) (lv' := [(4, .int (nI 1)), (0, .ref (ad 0)), (1, .int (nI p)), (2, .int (nI 0)), (3, .int (nI ro))]) 140 rfl dX5_check_137 0 rfl (nI_add _ _) (Nat.le_of_ble_eq_true rfl) rfl ?_
  refine v_goto 113 dX5_check_140 (by decide) ?_
  refine v_iload 115 rfl dX5_check_113 rfl ?_
  refine v_iconst (v := nI 4) 116 rfl dX5_check_115 (by decide) ?_
  refine v_icmp_geN (a := 1) (b := 4) 143 119 rfl dX5_check_116 (by decide) (by omega) (by omega) (fun q => False.elim (by omega)) (fun c116 => ?_)
  refine v_aload_n 120 rfl dX5_check_119 rfl rfl ?_
  refine v_get (ci := 5) (C := RX5) (T := TX5) (N := 25) (v := .ref (ad 12)) 123 rfl 0 19 dX5_check_120 rfl (Nat.le_of_ble_eq_true rfl) i5 (by decide +kernel) rfl rfl ?_
  refine v_iconst (v := nI 4) 124 rfl dX5_check_123 (by decide) ?_
  refine v_iload_n 125 rfl dX5_check_124 rfl rfl ?_
  refine v_imulN (a := 4) (b := p) 126 rfl dX5_check_125 ?_
  refine v_iload 128 rfl dX5_check_126 rfl ?_
  refine v_iaddN (a := 4 * p) (b := 1) 129 rfl dX5_check_128 ?_
  refine v_aload_n 130 rfl dX5_check_129 rfl rfl ?_
  refine v_get (ci := 5) (C := RX5) (T := TX5) (N := 25) (v := .ref (ad 10)) 133 rfl 0 17 dX5_check_130 rfl (Nat.le_of_ble_eq_true rfl) i5 (by decide +kernel) rfl rfl ?_
  refine v_iload 135 rfl dX5_check_133 rfl ?_
  refine v_iald (j := 1) (v := oI (hb A 1)) 136 rfl 10 0 dX5_check_135 rfl rfl (by omega) (by decide) (nowOf_at (by omega)) ?_
  refine v_iast (j := (4 * p) + 1) (w' := wM ad cI cZ le la kd fs sc mi bh mz oo ie mo mp mf mq ms mt mc (nowOf A) lf (upd (upd he (4 * p) (oI (hb A 0))) ((4 * p) + 1) (oI (hb A 1))) pi ot bf ar md) 137 rfl 12 0 dX5_check_136 rfl rfl (by omega) (by decide) rfl ?_
  refine v_iinc (v := nI 2) (lv' := [(4, .int (nI 2)), (0, .ref (ad 0)), (1, .int (nI p)), (2, .int (nI 0)), (3, .int (nI ro))]) 140 rfl dX5_check_137 0 rfl (nI_add _ _) (Nat.le_of_ble_eq_true rfl) rfl ?_
  refine v_goto 113 dX5_check_140 (by decide) ?_
  refine v_iload 115 rfl dX5_check_113 rfl ?_
  refine v_iconst (v := nI 4) 116 rfl dX5_check_115 (by decide) ?_
  refine v_icmp_geN (a := 2) (b := 4) 143 119 rfl dX5_check_116 (by decide) (by omega) (by omega) (fun q => False.elim (by omega)) (fun c116 => ?_)
  refine v_aload_n 120 rfl dX5_check_119 rfl rfl ?_
  refine v_get (ci := 5) (C := RX5) (T := TX5) (N := 25) (v := .ref (ad 12)) 123 rfl 0 19 dX5_check_120 rfl (Nat.le_of_ble_eq_true rfl) i5 (by decide +kernel) rfl rfl ?_
  refine v_iconst (v := nI 4) 124 rfl dX5_check_123 (by decide) ?_
  refine v_iload_n 125 rfl dX5_check_124 rfl rfl ?_
  refine v_imulN (a := 4) (b := p) 126 rfl dX5_check_125 ?_
  refine v_iload 128 rfl dX5_check_126 rfl ?_
  refine v_iaddN (a := 4 * p) (b := 2) 129 rfl dX5_check_128 ?_
  refine v_aload_n 130 rfl dX5_check_129 rfl rfl ?_
  refine v_get (ci := 5) (C := RX5) (T := TX5) (N := 25) (v := .ref (ad 10)) 133 rfl 0 17 dX5_check_130 rfl (Nat.le_of_ble_eq_true rfl) i5 (by decide +kernel) rfl rfl ?_
  refine v_iload 135 rfl dX5_check_133 rfl ?_
  refine v_iald (j := 2) (v := oI (hb A 2)) 136 rfl 10 0 dX5_check_135 rfl rfl (by omega) (by decide) (nowOf_at (by omega)) ?_
  refine v_iast (j := (4 * p) + 2) (w' := wM ad cI cZ le la kd fs sc mi bh mz oo ie mo mp mf mq ms mt mc (nowOf A) lf (upd (upd (upd he (4 * p) (oI (hb A 0))) ((4 * p) + 1) (oI (hb A 1))) ((4 * p) + 2) (oI (hb A 2))) pi ot bf ar md) 137 rfl 12 0 dX5_check_136 rfl rfl (by omega) (by decide) rfl ?_
  refine v_iinc (v := nI 3) (lv' := [(4, .int (nI 3)), (0, .ref (ad 0)), (1, .int (nI p)), (2, .int (nI 0)), (3, .int (nI ro))]) 140 rfl dX5_check_137 0 rfl (nI_add _ _) (Nat.le_of_ble_eq_true rfl) rfl ?_
  refine v_goto 113 dX5_check_140 (by decide) ?_
  refine v_iload 115 rfl dX5_check_113 rfl ?_
  refine v_iconst (v := nI 4) 116 rfl dX5_check_115 (by decide) ?_
  refine v_icmp_geN (a := 3) (b := 4) 143 119 rfl dX5_check_116 (by decide) (by omega) (by omega) (fun q => False.elim (by omega)) (fun c116 => ?_)
  refine v_aload_n 120 rfl dX5_check_119 rfl rfl ?_
  refine v_get (ci := 5) (C := RX5) (T := TX5) (N := 25) (v := .ref (ad 12)) 123 rfl 0 19 dX5_check_120 rfl (Nat.le_of_ble_eq_true rfl) i5 (by decide +kernel) rfl rfl ?_
  refine v_iconst (v := nI 4) 124 rfl dX5_check_123 (by decide) ?_
  refine v_iload_n 125 rfl dX5_check_124 rfl rfl ?_
  refine v_imulN (a := 4) (b := p) 126 rfl dX5_check_125 ?_
  refine v_iload 128 rfl dX5_check_126 rfl ?_
  refine v_iaddN (a := 4 * p) (b := 3) 129 rfl dX5_check_128 ?_
  refine v_aload_n 130 rfl dX5_check_129 rfl rfl ?_
  refine v_get (ci := 5) (C := RX5) (T := TX5) (N := 25) (v := .ref (ad 10)) 133 rfl 0 17 dX5_check_130 rfl (Nat.le_of_ble_eq_true rfl) i5 (by decide +kernel) rfl rfl ?_
  refine v_iload 135 rfl dX5_check_133 rfl ?_
  refine v_iald (j := 3) (v := oI (hb A 3)) 136 rfl 10 0 dX5_check_135 rfl rfl (by omega) (by decide) (nowOf_at (by omega)) ?_
  refine v_iast (j := (4 * p) + 3) (w' := wM ad cI cZ le la kd fs sc mi bh mz oo ie mo mp mf mq ms mt mc (nowOf A) lf (upd (upd (upd (upd he (4 * p) (oI (hb A 0))) ((4 * p) + 1) (oI (hb A 1))) ((4 * p) + 2) (oI (hb A 2))) ((4 * p) + 3) (oI (hb A 3))) pi ot bf ar md) 137 rfl 12 0 dX5_check_136 rfl rfl (by omega) (by decide) rfl ?_
  refine v_iinc (v := nI 4) (lv' := [(4, .int (nI 4)), (0, .ref (ad 0)), (1, .int (nI p)), (2, .int (nI 0)), (3, .int (nI ro))]) 140 rfl dX5_check_137 0 rfl (nI_add _ _) (Nat.le_of_ble_eq_true rfl) rfl ?_
  refine v_goto 113 dX5_check_140 (by decide) ?_
  refine v_iload 115 rfl dX5_check_113 rfl ?_
  refine v_iconst (v := nI 4) 116 rfl dX5_check_115 (by decide) ?_
  refine v_icmp_geN (a := 4) (b := 4) 143 119 rfl dX5_check_116 (by decide) (by omega) (by omega) (fun c116 => ?_) (fun q => False.elim (by omega))
  refine v_w (w' := wM ad cI cZ le la kd fs sc mi bh mz oo ie mo mp mf mq ms mt mc (nowOf A) lf (rowU he p A) pi ot bf ar md) (by rw [row4]) ?_
  refine v_aload_n 144 rfl dX5_check_143 rfl rfl ?_
  refine v_iload_n 145 rfl dX5_check_144 rfl rfl ?_
  refine v_put (ci := 5) (C := RX5) (T := TX5) (ty0 := tyX5) (N := 25) (ty := .int) (w' := wM ad cI cZ le la kd fs sc mi bh mz oo ie mo (nI p) mf mq ms mt mc (nowOf A) lf (rowU he p A) pi ot bf ar md) 148 rfl 0 11 dX5_check_145 rfl (Nat.le_of_ble_eq_true rfl) i5 tyX5_ok nmX5 (by decide +kernel) rfl (by decide +kernel) rfl rfl rfl (Nat.le_of_ble_eq_true rfl) rfl ?_
  refine v_aload_n 149 rfl dX5_check_148 rfl rfl ?_
  refine v_get (ci := 5) (C := RX5) (T := TX5) (N := 25) (v := .ref (ad 3)) 152 rfl 0 2 dX5_check_149 rfl (Nat.le_of_ble_eq_true rfl) i5 (by decide +kernel) rfl rfl ?_
  refine v_iload_n 153 rfl dX5_check_152 rfl rfl ?_
  refine v_iald (j := p) (v := nI d) 154 rfl 3 0 dX5_check_153 rfl rfl (by omega) (by decide) hk ?_
  refine v_iconst (v := nI 4) 155 rfl dX5_check_154 (by decide) ?_
  refine v_icmp_ltN (a := d) (b := 4) 227 158 rfl dX5_check_155 (by decide) (by omega) (by omega) (fun c155 => ?_) (fun q => False.elim (by omega))
  refine v_aload_n 228 rfl dX5_check_227 rfl rfl ?_
  refine v_iload_n 229 rfl dX5_check_228 rfl rfl ?_
  refine v_callF (n := 1) (q0 := 0) (ci := 5) 232 rfl (m_work tn fb p d v x A (by omega) hv hx hA hf hs hk hd hx3 hle hla) gX5_check_X5_work rfl (by decide +kernel) rfl ⟨(Nat.le_of_ble_eq_true rfl), (Nat.le_of_ble_eq_true rfl)⟩ rfl (Nat.le_of_ble_eq_true rfl) rfl rfl rfl dX5_check_229 ⟨Nat.zero_le _, Nat.zero_le _⟩ rfl ?_
  refine v_st (st' := [.int (nI ((sim tn fb d v x A).1))]) rfl ?_
  refine v_istore_n (lv' := [(2, .int (nI ((sim tn fb d v x A).1))), (4, .int (nI 4)), (0, .ref (ad 0)), (1, .int (nI p)), (3, .int (nI ro))]) 233 rfl dX5_check_232 rfl (Nat.le_of_ble_eq_true rfl) rfl ?_
  refine v_iload_n 234 rfl dX5_check_233 rfl rfl ?_
  refine v_iconst (v := nI 1) 235 rfl dX5_check_234 (by decide) ?_
  refine v_iaddN (a := p) (b := 1) 236 rfl dX5_check_235 ?_
  refine v_istore_n (lv' := [(1, .int (nI (p + 1))), (2, .int (nI ((sim tn fb d v x A).1))), (4, .int (nI 4)), (0, .ref (ad 0)), (3, .int (nI ro))]) 237 rfl dX5_check_236 rfl (Nat.le_of_ble_eq_true rfl) rfl ?_
  refine v_iinc (v := nI (ro + 1)) (lv' := [(3, .int (nI (ro + 1))), (1, .int (nI (p + 1))), (2, .int (nI ((sim tn fb d v x A).1))), (4, .int (nI 4)), (0, .ref (ad 0))]) 240 rfl dX5_check_237 4 rfl (nI_add _ _) (Nat.le_of_ble_eq_true rfl) rfl ?_
  refine v_goto 61 dX5_check_240 (by decide) ?_
  refine v_lv [4, 1, 2, 0] rfl ?_
  exact h

set_option maxRecDepth 100000 in
set_option maxHeartbeats 4000000 in
theorem mc_open {D : va_G} {cI cZ cJ : ClassId} {l : Launch} {ad : Nat → Nat} {le : Nat → Int32} {la : Nat → Int32} {kd : Nat → Int32} {fs : Nat → Int32} {sc : Nat → Int32} {mi : Nat → Int32} {bh : Nat → Int32} {mz : Nat} {oo : Nat → Int32} {ie : Nat → Int32} {mo : Nat} {mp : Int32} {mf : Int32} {mq : Int32} {ms : Nat} {mt : Int32} {mc : Int32} {lf : Nat → Int32} {he : Nat → Int32} {pi : Nat → Int32} {ot : Nat → Int32} {bf : Nat → Int32} {ar : Nat → Int32} {md : Nat} (p ro d A : Nat) (hp : p < 40) (hmd : md < 6) (hA : A < 2 ^ 20) (hk : kd p = nI d) (hd : 4 ≤ d) (hd6 : d < 6) {w0 : va_W} {Pr : Option Value → va_W → Prop} (h : V (xN D (tyL cI cZ cJ) l 2 46 w0 Pr) (cX5_check, wsX5_check, yX5_check.cls, 5, (some .int), yX5_check.name) 0 0 (wM ad cI cZ le la kd fs sc mi bh mz oo ie mo (nI p) mf mq ms mt mc (nowOf A) lf (rowU he p A) (upd pi md (nI p)) (upd ot md (bI false)) (rowU bf md A) ar (md + 1)) 61 [(0, .ref (ad 0)), (1, .int (nI (p + 1))), (2, .int (nI 0)), (3, .int (nI (ro + 1)))] []) : V (xN D (tyL cI cZ cJ) l 2 46 w0 Pr) (cX5_check, wsX5_check, yX5_check.cls, 5, (some .int), yX5_check.name) 0 0 (wM ad cI cZ le la kd fs sc mi bh mz oo ie mo mp mf mq ms mt mc (nowOf A) lf he pi ot bf ar md) 110 [(0, .ref (ad 0)), (1, .int (nI p)), (2, .int (nI 0)), (3, .int (nI ro))] [] := by
  have i5 : ∀ w ∈ u_ws RX5 TX5 25, w ∈ wsX5_check := by decide +kernel
  refine v_iconst (v := nI 0) 111 rfl dX5_check_110 (by decide) ?_
  refine v_istore (lv' := [(4, .int (nI 0)), (0, .ref (ad 0)), (1, .int (nI p)), (2, .int (nI 0)), (3, .int (nI ro))]) 113 rfl dX5_check_111 (Nat.le_of_ble_eq_true rfl) rfl ?_
  refine v_iload 115 rfl dX5_check_113 rfl ?_
  refine v_iconst (v := nI 4) 116 rfl dX5_check_115 (by decide) ?_
  refine v_icmp_geN (a := 0) (b := 4) 143 119 rfl dX5_check_116 (by decide) (by omega) (by omega) (fun q => False.elim (by omega)) (fun c116 => ?_)
  refine v_aload_n 120 rfl dX5_check_119 rfl rfl ?_
  refine v_get (ci := 5) (C := RX5) (T := TX5) (N := 25) (v := .ref (ad 12)) 123 rfl 0 19 dX5_check_120 rfl (Nat.le_of_ble_eq_true rfl) i5 (by decide +kernel) rfl rfl ?_
  refine v_iconst (v := nI 4) 124 rfl dX5_check_123 (by decide) ?_
  refine v_iload_n 125 rfl dX5_check_124 rfl rfl ?_
  refine v_imulN (a := 4) (b := p) 126 rfl dX5_check_125 ?_
  refine v_iload 128 rfl dX5_check_126 rfl ?_
  refine v_iaddN (a := 4 * p) (b := 0) 129 rfl dX5_check_128 ?_
  refine v_aload_n 130 rfl dX5_check_129 rfl rfl ?_
  refine v_get (ci := 5) (C := RX5) (T := TX5) (N := 25) (v := .ref (ad 10)) 133 rfl 0 17 dX5_check_130 rfl (Nat.le_of_ble_eq_true rfl) i5 (by decide +kernel) rfl rfl ?_
  refine v_iload 135 rfl dX5_check_133 rfl ?_
  refine v_iald (j := 0) (v := oI (hb A 0)) 136 rfl 10 0 dX5_check_135 rfl rfl (by omega) (by decide) (nowOf_at (by omega)) ?_
  refine v_iast (j := 4 * p) (w' := wM ad cI cZ le la kd fs sc mi bh mz oo ie mo mp mf mq ms mt mc (nowOf A) lf (upd he (4 * p) (oI (hb A 0))) pi ot bf ar md) 137 rfl 12 0 dX5_check_136 rfl rfl (by omega) (by decide) rfl ?_
  refine v_iinc (v := nI 1) (lv' := [(4, .int (nI 1)), (0, .ref (ad 0)), (1, .int (nI p)), (2, .int (nI 0)), (3, .int (nI ro))]) 140 rfl dX5_check_137 0 rfl (nI_add _ _) (Nat.le_of_ble_eq_true rfl) rfl ?_
  refine v_goto 113 dX5_check_140 (by decide) ?_
  refine v_iload 115 rfl dX5_check_113 rfl ?_
  refine v_iconst (v := nI 4) 116 rfl dX5_check_115 (by decide) ?_
  refine v_icmp_geN (a := 1) (b := 4) 143 119 rfl dX5_check_116 (by decide) (by omega) (by omega) (fun q => False.elim (by omega)) (fun c116 => ?_)
  refine v_aload_n 120 rfl dX5_check_119 rfl rfl ?_
  refine v_get (ci := 5) (C := RX5) (T := TX5) (N := 25) (v := .ref (ad 12)) 123 rfl 0 19 dX5_check_120 rfl (Nat.le_of_ble_eq_true rfl) i5 (by decide +kernel) rfl rfl ?_
  refine v_iconst (v := nI 4) 124 rfl dX5_check_123 (by decide) ?_
  refine v_iload_n 125 rfl dX5_check_124 rfl rfl ?_
  refine v_imulN (a := 4) (b := p) 126 rfl dX5_check_125 ?_
  refine v_iload 128 rfl dX5_check_126 rfl ?_
  refine v_iaddN (a := 4 * p) (b := 1) 129 rfl dX5_check_128 ?_
  refine v_aload_n 130 rfl dX5_check_129 rfl rfl ?_
  refine v_get (ci := 5) (C := RX5) (T := TX5) (N := 25) (v := .ref (ad 10)) 133 rfl 0 17 dX5_check_130 rfl (Nat.le_of_ble_eq_true rfl) i5 (by decide +kernel) rfl rfl ?_
  refine v_iload 135 rfl dX5_check_133 rfl ?_
  refine v_iald (j := 1) (v := oI (hb A 1)) 136 rfl 10 0 dX5_check_135 rfl rfl (by omega) (by decide) (nowOf_at (by omega)) ?_
  refine v_iast (j := (4 * p) + 1) (w' := wM ad cI cZ le la kd fs sc mi bh mz oo ie mo mp mf mq ms mt mc (nowOf A) lf (upd (upd he (4 * p) (oI (hb A 0))) ((4 * p) + 1) (oI (hb A 1))) pi ot bf ar md) 137 rfl 12 0 dX5_check_136 rfl rfl (by omega) (by decide) rfl ?_
  refine v_iinc (v := nI 2) (lv' := [(4, .int (nI 2)), (0, .ref (ad 0)), (1, .int (nI p)), (2, .int (nI 0)), (3, .int (nI ro))]) 140 rfl dX5_check_137 0 rfl (nI_add _ _) (Nat.le_of_ble_eq_true rfl) rfl ?_
  refine v_goto 113 dX5_check_140 (by decide) ?_
  refine v_iload 115 rfl dX5_check_113 rfl ?_
  refine v_iconst (v := nI 4) 116 rfl dX5_check_115 (by decide) ?_
  refine v_icmp_geN (a := 2) (b := 4) 143 119 rfl dX5_check_116 (by decide) (by omega) (by omega) (fun q => False.elim (by omega)) (fun c116 => ?_)
  refine v_aload_n 120 rfl dX5_check_119 rfl rfl ?_
  refine v_get (ci := 5) (C := RX5) (T := TX5) (N := 25) (v := .ref (ad 12)) 123 rfl 0 19 dX5_check_120 rfl (Nat.le_of_ble_eq_true rfl) i5 (by decide +kernel) rfl rfl ?_
  refine v_iconst (v := nI 4) 124 rfl dX5_check_123 (by decide) ?_
  refine v_iload_n 125 rfl dX5_check_124 rfl rfl ?_
  refine v_imulN (a := 4) (b := p) 126 rfl dX5_check_125 ?_
  refine v_iload 128 rfl dX5_check_126 rfl ?_
  refine v_iaddN (a := 4 * p) (b := 2) 129 rfl dX5_check_128 ?_
  refine v_aload_n 130 rfl dX5_check_129 rfl rfl ?_
  refine v_get (ci := 5) (C := RX5) (T := TX5) (N := 25) (v := .ref (ad 10)) 133 rfl 0 17 dX5_check_130 rfl (Nat.le_of_ble_eq_true rfl) i5 (by decide +kernel) rfl rfl ?_
  refine v_iload 135 rfl dX5_check_133 rfl ?_
  refine v_iald (j := 2) (v := oI (hb A 2)) 136 rfl 10 0 dX5_check_135 rfl rfl (by omega) (by decide) (nowOf_at (by omega)) ?_
  refine v_iast (j := (4 * p) + 2) (w' := wM ad cI cZ le la kd fs sc mi bh mz oo ie mo mp mf mq ms mt mc (nowOf A) lf (upd (upd (upd he (4 * p) (oI (hb A 0))) ((4 * p) + 1) (oI (hb A 1))) ((4 * p) + 2) (oI (hb A 2))) pi ot bf ar md) 137 rfl 12 0 dX5_check_136 rfl rfl (by omega) (by decide) rfl ?_
  refine v_iinc (v := nI 3) (lv' := [(4, .int (nI 3)), (0, .ref (ad 0)), (1, .int (nI p)), (2, .int (nI 0)), (3, .int (nI ro))]) 140 rfl dX5_check_137 0 rfl (nI_add _ _) (Nat.le_of_ble_eq_true rfl) rfl ?_
  refine v_goto 113 dX5_check_140 (by decide) ?_
  refine v_iload 115 rfl dX5_check_113 rfl ?_
  refine v_iconst (v := nI 4) 116 rfl dX5_check_115 (by decide) ?_
  refine v_icmp_geN (a := 3) (b := 4) 143 119 rfl dX5_check_116 (by decide) (by omega) (by omega) (fun q => False.elim (by omega)) (fun c116 => ?_)
  refine v_aload_n 120 rfl dX5_check_119 rfl rfl ?_
  refine v_get (ci := 5) (C := RX5) (T := TX5) (N := 25) (v := .ref (ad 12)) 123 rfl 0 19 dX5_check_120 rfl (Nat.le_of_ble_eq_true rfl) i5 (by decide +kernel) rfl rfl ?_
  refine v_iconst (v := nI 4) 124 rfl dX5_check_123 (by decide) ?_
  refine v_iload_n 125 rfl dX5_check_124 rfl rfl ?_
  refine v_imulN (a := 4) (b := p) 126 rfl dX5_check_125 ?_
  refine v_iload 128 rfl dX5_check_126 rfl ?_
  refine v_iaddN (a := 4 * p) (b := 3) 129 rfl dX5_check_128 ?_
  refine v_aload_n 130 rfl dX5_check_129 rfl rfl ?_
  refine v_get (ci := 5) (C := RX5) (T := TX5) (N := 25) (v := .ref (ad 10)) 133 rfl 0 17 dX5_check_130 rfl (Nat.le_of_ble_eq_true rfl) i5 (by decide +kernel) rfl rfl ?_
  refine v_iload 135 rfl dX5_check_133 rfl ?_
  refine v_iald (j := 3) (v := oI (hb A 3)) 136 rfl 10 0 dX5_check_135 rfl rfl (by omega) (by decide) (nowOf_at (by omega)) ?_
  refine v_iast (j := (4 * p) + 3) (w' := wM ad cI cZ le la kd fs sc mi bh mz oo ie mo mp mf mq ms mt mc (nowOf A) lf (upd (upd (upd (upd he (4 * p) (oI (hb A 0))) ((4 * p) + 1) (oI (hb A 1))) ((4 * p) + 2) (oI (hb A 2))) ((4 * p) + 3) (oI (hb A 3))) pi ot bf ar md) 137 rfl 12 0 dX5_check_136 rfl rfl (by omega) (by decide) rfl ?_
  refine v_iinc (v := nI 4) (lv' := [(4, .int (nI 4)), (0, .ref (ad 0)), (1, .int (nI p)), (2, .int (nI 0)), (3, .int (nI ro))]) 140 rfl dX5_check_137 0 rfl (nI_add _ _) (Nat.le_of_ble_eq_true rfl) rfl ?_
  refine v_goto 113 dX5_check_140 (by decide) ?_
  refine v_iload 115 rfl dX5_check_113 rfl ?_
  refine v_iconst (v := nI 4) 116 rfl dX5_check_115 (by decide) ?_
  refine v_icmp_geN (a := 4) (b := 4) 143 119 rfl dX5_check_116 (by decide) (by omega) (by omega) (fun c116 => ?_) (fun q => False.elim (by omega))
  refine v_w (w' := wM ad cI cZ le la kd fs sc mi bh mz oo ie mo mp mf mq ms mt mc (nowOf A) lf (rowU he p A) pi ot bf ar md) (by rw [row4]) ?_
  refine v_aload_n 144 rfl dX5_check_143 rfl rfl ?_
  refine v_iload_n 145 rfl dX5_check_144 rfl rfl ?_
  refine v_put (ci := 5) (C := RX5) (T := TX5) (ty0 := tyX5) (N := 25) (ty := .int) (w' := wM ad cI cZ le la kd fs sc mi bh mz oo ie mo (nI p) mf mq ms mt mc (nowOf A) lf (rowU he p A) pi ot bf ar md) 148 rfl 0 11 dX5_check_145 rfl (Nat.le_of_ble_eq_true rfl) i5 tyX5_ok nmX5 (by decide +kernel) rfl (by decide +kernel) rfl rfl rfl (Nat.le_of_ble_eq_true rfl) rfl ?_
  refine v_aload_n 149 rfl dX5_check_148 rfl rfl ?_
  refine v_get (ci := 5) (C := RX5) (T := TX5) (N := 25) (v := .ref (ad 3)) 152 rfl 0 2 dX5_check_149 rfl (Nat.le_of_ble_eq_true rfl) i5 (by decide +kernel) rfl rfl ?_
  refine v_iload_n 153 rfl dX5_check_152 rfl rfl ?_
  refine v_iald (j := p) (v := nI d) 154 rfl 3 0 dX5_check_153 rfl rfl (by omega) (by decide) hk ?_
  refine v_iconst (v := nI 4) 155 rfl dX5_check_154 (by decide) ?_
  refine v_icmp_ltN (a := d) (b := 4) 227 158 rfl dX5_check_155 (by decide) (by omega) (by omega) (fun q => False.elim (by omega)) (fun c155 => ?_)
  refine v_iconst (v := nI 0) 159 rfl dX5_check_158 (by decide) ?_
  refine v_istore (lv' := [(4, .int (nI 0)), (0, .ref (ad 0)), (1, .int (nI p)), (2, .int (nI 0)), (3, .int (nI ro))]) 161 rfl dX5_check_159 (Nat.le_of_ble_eq_true rfl) rfl ?_
  refine v_iload 163 rfl dX5_check_161 rfl ?_
  refine v_iconst (v := nI 4) 164 rfl dX5_check_163 (by decide) ?_
  refine v_icmp_geN (a := 0) (b := 4) 194 167 rfl dX5_check_164 (by decide) (by omega) (by omega) (fun q => False.elim (by omega)) (fun c164 => ?_)
  refine v_aload_n 168 rfl dX5_check_167 rfl rfl ?_
  refine v_get (ci := 5) (C := RX5) (T := TX5) (N := 25) (v := .ref (ad 15)) 171 rfl 0 22 dX5_check_168 rfl (Nat.le_of_ble_eq_true rfl) i5 (by decide +kernel) rfl rfl ?_
  refine v_iconst (v := nI 4) 172 rfl dX5_check_171 (by decide) ?_
  refine v_aload_n 173 rfl dX5_check_172 rfl rfl ?_
  refine v_get (ci := 5) (C := RX5) (T := TX5) (N := 25) (v := .int (nI md)) 176 rfl 0 24 dX5_check_173 rfl (Nat.le_of_ble_eq_true rfl) i5 (by decide +kernel) rfl rfl ?_
  refine v_imulN (a := 4) (b := md) 177 rfl dX5_check_176 ?_
  refine v_iload 179 rfl dX5_check_177 rfl ?_
  refine v_iaddN (a := 4 * md) (b := 0) 180 rfl dX5_check_179 ?_
  refine v_aload_n 181 rfl dX5_check_180 rfl rfl ?_
  refine v_get (ci := 5) (C := RX5) (T := TX5) (N := 25) (v := .ref (ad 10)) 184 rfl 0 17 dX5_check_181 rfl (Nat.le_of_ble_eq_true rfl) i5 (by decide +kernel) rfl rfl ?_
  refine v_iload 186 rfl dX5_check_184 rfl ?_
  refine v_iald (j := 0) (v := oI (hb A 0)) 187 rfl 10 0 dX5_check_186 rfl rfl (by omega) (by decide) (nowOf_at (by omega)) ?_
  refine v_iast (j := 4 * md) (w' := wM ad cI cZ le la kd fs sc mi bh mz oo ie mo (nI p) mf mq ms mt mc (nowOf A) lf (rowU he p A) pi ot (upd bf (4 * md) (oI (hb A 0))) ar md) 188 rfl 15 0 dX5_check_187 rfl rfl (by omega) (by decide) rfl ?_
  refine v_iinc (v := nI 1) (lv' := [(4, .int (nI 1)), (0, .ref (ad 0)), (1, .int (nI p)), (2, .int (nI 0)), (3, .int (nI ro))]) 191 rfl dX5_check_188 0 rfl (nI_add _ _) (Nat.le_of_ble_eq_true rfl) rfl ?_
  refine v_goto 161 dX5_check_191 (by decide) ?_
  refine v_iload 163 rfl dX5_check_161 rfl ?_
  refine v_iconst (v := nI 4) 164 rfl dX5_check_163 (by decide) ?_
  refine v_icmp_geN (a := 1) (b := 4) 194 167 rfl dX5_check_164 (by decide) (by omega) (by omega) (fun q => False.elim (by omega)) (fun c164 => ?_)
  refine v_aload_n 168 rfl dX5_check_167 rfl rfl ?_
  refine v_get (ci := 5) (C := RX5) (T := TX5) (N := 25) (v := .ref (ad 15)) 171 rfl 0 22 dX5_check_168 rfl (Nat.le_of_ble_eq_true rfl) i5 (by decide +kernel) rfl rfl ?_
  refine v_iconst (v := nI 4) 172 rfl dX5_check_171 (by decide) ?_
  refine v_aload_n 173 rfl dX5_check_172 rfl rfl ?_
  refine v_get (ci := 5) (C := RX5) (T := TX5) (N := 25) (v := .int (nI md)) 176 rfl 0 24 dX5_check_173 rfl (Nat.le_of_ble_eq_true rfl) i5 (by decide +kernel) rfl rfl ?_
  refine v_imulN (a := 4) (b := md) 177 rfl dX5_check_176 ?_
  refine v_iload 179 rfl dX5_check_177 rfl ?_
  refine v_iaddN (a := 4 * md) (b := 1) 180 rfl dX5_check_179 ?_
  refine v_aload_n 181 rfl dX5_check_180 rfl rfl ?_
  refine v_get (ci := 5) (C := RX5) (T := TX5) (N := 25) (v := .ref (ad 10)) 184 rfl 0 17 dX5_check_181 rfl (Nat.le_of_ble_eq_true rfl) i5 (by decide +kernel) rfl rfl ?_
  refine v_iload 186 rfl dX5_check_184 rfl ?_
  refine v_iald (j := 1) (v := oI (hb A 1)) 187 rfl 10 0 dX5_check_186 rfl rfl (by omega) (by decide) (nowOf_at (by omega)) ?_
  refine v_iast (j := (4 * md) + 1) (w' := wM ad cI cZ le la kd fs sc mi bh mz oo ie mo (nI p) mf mq ms mt mc (nowOf A) lf (rowU he p A) pi ot (upd (upd bf (4 * md) (oI (hb A 0))) ((4 * md) + 1) (oI (hb A 1))) ar md) 188 rfl 15 0 dX5_check_187 rfl rfl (by omega) (by decide) rfl ?_
  refine v_iinc (v := nI 2) (lv' := [(4, .int (nI 2)), (0, .ref (ad 0)), (1, .int (nI p)), (2, .int (nI 0)), (3, .int (nI ro))]) 191 rfl dX5_check_188 0 rfl (nI_add _ _) (Nat.le_of_ble_eq_true rfl) rfl ?_
  refine v_goto 161 dX5_check_191 (by decide) ?_
  refine v_iload 163 rfl dX5_check_161 rfl ?_
  refine v_iconst (v := nI 4) 164 rfl dX5_check_163 (by decide) ?_
  refine v_icmp_geN (a := 2) (b := 4) 194 167 rfl dX5_check_164 (by decide) (by omega) (by omega) (fun q => False.elim (by omega)) (fun c164 => ?_)
  refine v_aload_n 168 rfl dX5_check_167 rfl rfl ?_
  refine v_get (ci := 5) (C := RX5) (T := TX5) (N := 25) (v := .ref (ad 15)) 171 rfl 0 22 dX5_check_168 rfl (Nat.le_of_ble_eq_true rfl) i5 (by decide +kernel) rfl rfl ?_
  refine v_iconst (v := nI 4) 172 rfl dX5_check_171 (by decide) ?_
  refine v_aload_n 173 rfl dX5_check_172 rfl rfl ?_
  refine v_get (ci := 5) (C := RX5) (T := TX5) (N := 25) (v := .int (nI md)) 176 rfl 0 24 dX5_check_173 rfl (Nat.le_of_ble_eq_true rfl) i5 (by decide +kernel) rfl rfl ?_
  refine v_imulN (a := 4) (b := md) 177 rfl dX5_check_176 ?_
  refine v_iload 179 rfl dX5_check_177 rfl ?_
  refine v_iaddN (a := 4 * md) (b := 2) 180 rfl dX5_check_179 ?_
  refine v_aload_n 181 rfl dX5_check_180 rfl rfl ?_
  refine v_get (ci := 5) (C := RX5) (T := TX5) (N := 25) (v := .ref (ad 10)) 184 rfl 0 17 dX5_check_181 rfl (Nat.le_of_ble_eq_true rfl) i5 (by decide +kernel) rfl rfl ?_
  refine v_iload 186 rfl dX5_check_184 rfl ?_
  refine v_iald (j := 2) (v := oI (hb A 2)) 187 rfl 10 0 dX5_check_186 rfl rfl (by omega) (by decide) (nowOf_at (by omega)) ?_
  refine v_iast (j := (4 * md) + 2) (w' := wM ad cI cZ le la kd fs sc mi bh mz oo ie mo (nI p) mf mq ms mt mc (nowOf A) lf (rowU he p A) pi ot (upd (upd (upd bf (4 * md) (oI (hb A 0))) ((4 * md) + 1) (oI (hb A 1))) ((4 * md) + 2) (oI (hb A 2))) ar md) 188 rfl 15 0 dX5_check_187 rfl rfl (by omega) (by decide) rfl ?_
  refine v_iinc (v := nI 3) (lv' := [(4, .int (nI 3)), (0, .ref (ad 0)), (1, .int (nI p)), (2, .int (nI 0)), (3, .int (nI ro))]) 191 rfl dX5_check_188 0 rfl (nI_add _ _) (Nat.le_of_ble_eq_true rfl) rfl ?_
  refine v_goto 161 dX5_check_191 (by decide) ?_
  refine v_iload 163 rfl dX5_check_161 rfl ?_
  refine v_iconst (v := nI 4) 164 rfl dX5_check_163 (by decide) ?_
  refine v_icmp_geN (a := 3) (b := 4) 194 167 rfl dX5_check_164 (by decide) (by omega) (by omega) (fun q => False.elim (by omega)) (fun c164 => ?_)
  refine v_aload_n 168 rfl dX5_check_167 rfl rfl ?_
  refine v_get (ci := 5) (C := RX5) (T := TX5) (N := 25) (v := .ref (ad 15)) 171 rfl 0 22 dX5_check_168 rfl (Nat.le_of_ble_eq_true rfl) i5 (by decide +kernel) rfl rfl ?_
  refine v_iconst (v := nI 4) 172 rfl dX5_check_171 (by decide) ?_
  refine v_aload_n 173 rfl dX5_check_172 rfl rfl ?_
  refine v_get (ci := 5) (C := RX5) (T := TX5) (N := 25) (v := .int (nI md)) 176 rfl 0 24 dX5_check_173 rfl (Nat.le_of_ble_eq_true rfl) i5 (by decide +kernel) rfl rfl ?_
  refine v_imulN (a := 4) (b := md) 177 rfl dX5_check_176 ?_
  refine v_iload 179 rfl dX5_check_177 rfl ?_
  refine v_iaddN (a := 4 * md) (b := 3) 180 rfl dX5_check_179 ?_
  refine v_aload_n 181 rfl dX5_check_180 rfl rfl ?_
  refine v_get (ci := 5) (C := RX5) (T := TX5) (N := 25) (v := .ref (ad 10)) 184 rfl 0 17 dX5_check_181 rfl (Nat.le_of_ble_eq_true rfl) i5 (by decide +kernel) rfl rfl ?_
  refine v_iload 186 rfl dX5_check_184 rfl ?_
  refine v_iald (j := 3) (v := oI (hb A 3)) 187 rfl 10 0 dX5_check_186 rfl rfl (by omega) (by decide) (nowOf_at (by omega)) ?_
  refine v_iast (j := (4 * md) + 3) (w' := wM ad cI cZ le la kd fs sc mi bh mz oo ie mo (nI p) mf mq ms mt mc (nowOf A) lf (rowU he p A) pi ot (upd (upd (upd (upd bf (4 * md) (oI (hb A 0))) ((4 * md) + 1) (oI (hb A 1))) ((4 * md) + 2) (oI (hb A 2))) ((4 * md) + 3) (oI (hb A 3))) ar md) 188 rfl 15 0 dX5_check_187 rfl rfl (by omega) (by decide) rfl ?_
  refine v_iinc (v := nI 4) (lv' := [(4, .int (nI 4)), (0, .ref (ad 0)), (1, .int (nI p)), (2, .int (nI 0)), (3, .int (nI ro))]) 191 rfl dX5_check_188 0 rfl (nI_add _ _) (Nat.le_of_ble_eq_true rfl) rfl ?_
  refine v_goto 161 dX5_check_191 (by decide) ?_
  refine v_iload 163 rfl dX5_check_161 rfl ?_
  refine v_iconst (v := nI 4) 164 rfl dX5_check_163 (by decide) ?_
  refine v_icmp_geN (a := 4) (b := 4) 194 167 rfl dX5_check_164 (by decide) (by omega) (by omega) (fun c164 => ?_) (fun q => False.elim (by omega))
  refine v_w (w' := wM ad cI cZ le la kd fs sc mi bh mz oo ie mo (nI p) mf mq ms mt mc (nowOf A) lf (rowU he p A) pi ot (rowU bf md A) ar md) (by rw [row4]) ?_
  refine v_aload_n 195 rfl dX5_check_194 rfl rfl ?_
  refine v_get (ci := 5) (C := RX5) (T := TX5) (N := 25) (v := .ref (ad 13)) 198 rfl 0 20 dX5_check_195 rfl (Nat.le_of_ble_eq_true rfl) i5 (by decide +kernel) rfl rfl ?_
  refine v_aload_n 199 rfl dX5_check_198 rfl rfl ?_
  refine v_get (ci := 5) (C := RX5) (T := TX5) (N := 25) (v := .int (nI md)) 202 rfl 0 24 dX5_check_199 rfl (Nat.le_of_ble_eq_true rfl) i5 (by decide +kernel) rfl rfl ?_
  refine v_iload_n 203 rfl dX5_check_202 rfl rfl ?_
  refine v_iast (j := md) (w' := wM ad cI cZ le la kd fs sc mi bh mz oo ie mo (nI p) mf mq ms mt mc (nowOf A) lf (rowU he p A) (upd pi md (nI p)) ot (rowU bf md A) ar md) 204 rfl 13 0 dX5_check_203 rfl rfl (by omega) (by decide) rfl ?_
  refine v_aload_n 205 rfl dX5_check_204 rfl rfl ?_
  refine v_get (ci := 5) (C := RX5) (T := TX5) (N := 25) (v := .ref (ad 14)) 208 rfl 0 21 dX5_check_205 rfl (Nat.le_of_ble_eq_true rfl) i5 (by decide +kernel) rfl rfl ?_
  refine v_aload_n 209 rfl dX5_check_208 rfl rfl ?_
  refine v_get (ci := 5) (C := RX5) (T := TX5) (N := 25) (v := .int (nI md)) 212 rfl 0 24 dX5_check_209 rfl (Nat.le_of_ble_eq_true rfl) i5 (by decide +kernel) rfl rfl ?_
  refine v_iconst (v := bI false) 213 rfl dX5_check_212 (by decide) ?_
  refine v_zast (j := md) (b := false) (w' := wM ad cI cZ le la kd fs sc mi bh mz oo ie mo (nI p) mf mq ms mt mc (nowOf A) lf (rowU he p A) (upd pi md (nI p)) (upd ot md (bI false)) (rowU bf md A) ar md) 214 rfl 14 1 dX5_check_213 rfl rfl (by omega) (by decide) rfl ?_
  refine v_aload_n 215 rfl dX5_check_214 rfl rfl ?_
  refine v_aload_n 216 rfl dX5_check_215 rfl rfl ?_
  refine v_get (ci := 5) (C := RX5) (T := TX5) (N := 25) (v := .int (nI md)) 219 rfl 0 24 dX5_check_216 rfl (Nat.le_of_ble_eq_true rfl) i5 (by decide +kernel) rfl rfl ?_
  refine v_iconst (v := nI 1) 220 rfl dX5_check_219 (by decide) ?_
  refine v_iaddN (a := md) (b := 1) 221 rfl dX5_check_220 ?_
  refine v_put (ci := 5) (C := RX5) (T := TX5) (ty0 := tyX5) (N := 25) (ty := .int) (w' := wM ad cI cZ le la kd fs sc mi bh mz oo ie mo (nI p) mf mq ms mt mc (nowOf A) lf (rowU he p A) (upd pi md (nI p)) (upd ot md (bI false)) (rowU bf md A) ar (md + 1)) 224 rfl 0 24 dX5_check_221 rfl (Nat.le_of_ble_eq_true rfl) i5 tyX5_ok nmX5 (by decide +kernel) rfl (by decide +kernel) rfl rfl rfl (Nat.le_of_ble_eq_true rfl) rfl ?_
  refine v_goto 233 dX5_check_224 (by decide) ?_
  refine v_iload_n 234 rfl dX5_check_233 rfl rfl ?_
  refine v_iconst (v := nI 1) 235 rfl dX5_check_234 (by decide) ?_
  refine v_iaddN (a := p) (b := 1) 236 rfl dX5_check_235 ?_
  refine v_istore_n (lv' := [(1, .int (nI (p + 1))), (4, .int (nI 4)), (0, .ref (ad 0)), (2, .int (nI 0)), (3, .int (nI ro))]) 237 rfl dX5_check_236 rfl (Nat.le_of_ble_eq_true rfl) rfl ?_
  refine v_iinc (v := nI (ro + 1)) (lv' := [(3, .int (nI (ro + 1))), (1, .int (nI (p + 1))), (4, .int (nI 4)), (0, .ref (ad 0)), (2, .int (nI 0))]) 240 rfl dX5_check_237 4 rfl (nI_add _ _) (Nat.le_of_ble_eq_true rfl) rfl ?_
  refine v_goto 61 dX5_check_240 (by decide) ?_
  refine v_lv [3, 1, 4, 0] rfl ?_
  exact h

set_option maxRecDepth 100000 in
set_option maxHeartbeats 4000000 in
theorem mc_endT {D : va_G} {cI cZ cJ : ClassId} {l : Launch} {ad : Nat → Nat} {le : Nat → Int32} {la : Nat → Int32} {kd : Nat → Int32} {fs : Nat → Int32} {sc : Nat → Int32} {mi : Nat → Int32} {bh : Nat → Int32} {mz : Nat} {oo : Nat → Int32} {ie : Nat → Int32} {mo : Nat} {mp : Int32} {mf : Int32} {mq : Int32} {ms : Nat} {mt : Int32} {mc : Int32} {lf : Nat → Int32} {he : Nat → Int32} {pi : Nat → Int32} {ot : Nat → Int32} {bf : Nat → Int32} {ar : Nat → Int32} {md : Nat} (p ro k i A B : Nat) (hmd : md = k + 1) (hk : k < 6) (hp : pi k = nI i) (hi : i < 40) (hA : A < 2 ^ 20) (hB2 : B < 2 ^ 20) (hd : kd i = nI 4) (hot : ot k = bI false) (hB : ∀ v, v < 4 → bf (4 * k + v) = oI (hb B v)) {w0 : va_W} {Pr : Option Value → va_W → Prop} (h : V (xN D (tyL cI cZ cJ) l 2 46 w0 Pr) (cX5_check, wsX5_check, yX5_check.cls, 5, (some .int), yX5_check.name) 0 0 (wM ad cI cZ le la kd fs sc mi bh mz oo ie mo mp mf mq ms mt mc (nowOf B) lf he pi (upd ot k (bI true)) bf (rowU ar k A) md) 61 [(0, .ref (ad 0)), (1, .int (nI p)), (2, .int (nI 0)), (3, .int (nI (ro + 1)))] []) : V (xN D (tyL cI cZ cJ) l 2 46 w0 Pr) (cX5_check, wsX5_check, yX5_check.cls, 5, (some .int), yX5_check.name) 0 0 (wM ad cI cZ le la kd fs sc mi bh mz oo ie mo mp mf mq ms mt mc (nowOf A) lf he pi ot bf ar md) 102 [(0, .ref (ad 0)), (1, .int (nI p)), (2, .int (nI 0)), (3, .int (nI ro))] [] := by

  refine v_aload_n 103 rfl dX5_check_102 rfl rfl ?_
  refine v_callF (n := 0) (q0 := 0) (ci := 5) 106 rfl (m_endedT k i A B hmd hk hp hi hA hB2 hd hot hB) gX5_check_X5_ended rfl (by decide +kernel) rfl ⟨(Nat.le_of_ble_eq_true rfl), (Nat.le_of_ble_eq_true rfl)⟩ rfl (Nat.le_of_ble_eq_true rfl) rfl rfl rfl dX5_check_103 ⟨Nat.zero_le _, Nat.zero_le _⟩ rfl ?_
  refine v_st (st' := [.int (nI 0)]) rfl ?_
  refine v_istore_n (lv' := [(2, .int (nI 0)), (0, .ref (ad 0)), (1, .int (nI p)), (3, .int (nI ro))]) 107 rfl dX5_check_106 rfl (Nat.le_of_ble_eq_true rfl) rfl ?_
  refine v_goto 237 dX5_check_107 (by decide) ?_
  refine v_iinc (v := nI (ro + 1)) (lv' := [(3, .int (nI (ro + 1))), (2, .int (nI 0)), (0, .ref (ad 0)), (1, .int (nI p))]) 240 rfl dX5_check_237 3 rfl (nI_add _ _) (Nat.le_of_ble_eq_true rfl) rfl ?_
  refine v_goto 61 dX5_check_240 (by decide) ?_
  refine v_lv [2, 3, 1, 0] rfl ?_
  exact h

set_option maxRecDepth 100000 in
set_option maxHeartbeats 4000000 in
theorem mc_endE {D : va_G} {cI cZ cJ : ClassId} {l : Launch} {ad : Nat → Nat} {le : Nat → Int32} {la : Nat → Int32} {kd : Nat → Int32} {fs : Nat → Int32} {sc : Nat → Int32} {mi : Nat → Int32} {bh : Nat → Int32} {mz : Nat} {oo : Nat → Int32} {ie : Nat → Int32} {mo : Nat} {mp : Int32} {mf : Int32} {mq : Int32} {ms : Nat} {mt : Int32} {mc : Int32} {lf : Nat → Int32} {he : Nat → Int32} {pi : Nat → Int32} {ot : Nat → Int32} {bf : Nat → Int32} {ar : Nat → Int32} {md : Nat} (p ro k i A B : Nat) (hmd : md = k + 1) (hk : k < 6) (hp : pi k = nI i) (hi : i < 40) (hA : A < 2 ^ 20) (hB2 : B < 2 ^ 20) (hd : kd i = nI 4) (hot : ot k = bI true) (hB : ∀ v, v < 4 → ar (4 * k + v) = oI (hb B v)) {w0 : va_W} {Pr : Option Value → va_W → Prop} (h : V (xN D (tyL cI cZ cJ) l 2 46 w0 Pr) (cX5_check, wsX5_check, yX5_check.cls, 5, (some .int), yX5_check.name) 0 0 (wM ad cI cZ le la kd fs sc mi bh mz oo ie mo (nI i) mf mq ms mt mc (nowOf A) lf he pi ot bf ar k) 61 [(0, .ref (ad 0)), (1, .int (nI p)), (2, .int (nI (if A = B then 0 else 5))), (3, .int (nI (ro + 1)))] []) : V (xN D (tyL cI cZ cJ) l 2 46 w0 Pr) (cX5_check, wsX5_check, yX5_check.cls, 5, (some .int), yX5_check.name) 0 0 (wM ad cI cZ le la kd fs sc mi bh mz oo ie mo mp mf mq ms mt mc (nowOf A) lf he pi ot bf ar md) 102 [(0, .ref (ad 0)), (1, .int (nI p)), (2, .int (nI 0)), (3, .int (nI ro))] [] := by

  refine v_aload_n 103 rfl dX5_check_102 rfl rfl ?_
  refine v_callF (n := 0) (q0 := 0) (ci := 5) 106 rfl (m_endedE k i A B hmd hk hp hi hA hB2 hd hot hB) gX5_check_X5_ended rfl (by decide +kernel) rfl ⟨(Nat.le_of_ble_eq_true rfl), (Nat.le_of_ble_eq_true rfl)⟩ rfl (Nat.le_of_ble_eq_true rfl) rfl rfl rfl dX5_check_103 ⟨Nat.zero_le _, Nat.zero_le _⟩ rfl ?_
  refine v_st (st' := [.int (nI (if A = B then 0 else 5))]) rfl ?_
  refine v_istore_n (lv' := [(2, .int (nI (if A = B then 0 else 5))), (0, .ref (ad 0)), (1, .int (nI p)), (3, .int (nI ro))]) 107 rfl dX5_check_106 rfl (Nat.le_of_ble_eq_true rfl) rfl ?_
  refine v_goto 237 dX5_check_107 (by decide) ?_
  refine v_iinc (v := nI (ro + 1)) (lv' := [(3, .int (nI (ro + 1))), (2, .int (nI (if A = B then 0 else 5))), (0, .ref (ad 0)), (1, .int (nI p))]) 240 rfl dX5_check_237 3 rfl (nI_add _ _) (Nat.le_of_ble_eq_true rfl) rfl ?_
  refine v_goto 61 dX5_check_240 (by decide) ?_
  refine v_lv [2, 3, 1, 0] rfl ?_
  exact h

set_option maxRecDepth 100000 in
set_option maxHeartbeats 4000000 in
theorem mc_endW {D : va_G} {cI cZ cJ : ClassId} {l : Launch} {ad : Nat → Nat} {le : Nat → Int32} {la : Nat → Int32} {kd : Nat → Int32} {fs : Nat → Int32} {sc : Nat → Int32} {mi : Nat → Int32} {bh : Nat → Int32} {mz : Nat} {oo : Nat → Int32} {ie : Nat → Int32} {mo : Nat} {mp : Int32} {mf : Int32} {mq : Int32} {ms : Nat} {mt : Int32} {mc : Int32} {lf : Nat → Int32} {he : Nat → Int32} {pi : Nat → Int32} {ot : Nat → Int32} {bf : Nat → Int32} {ar : Nat → Int32} {md : Nat} (p ro k i A B : Nat) (hmd : md = k + 1) (hk : k < 6) (hp : pi k = nI i) (hi : i < 40) (hA : A < 2 ^ 20) (hB2 : B < 2 ^ 20) (hd : kd i = nI 5) (hB : ∀ v, v < 4 → bf (4 * k + v) = oI (hb B v)) {w0 : va_W} {Pr : Option Value → va_W → Prop} (h : V (xN D (tyL cI cZ cJ) l 2 46 w0 Pr) (cX5_check, wsX5_check, yX5_check.cls, 5, (some .int), yX5_check.name) 0 0 (wM ad cI cZ le la kd fs sc mi bh mz oo ie mo (nI i) mf mq ms mt mc (nowOf A) lf he pi ot bf ar k) 61 [(0, .ref (ad 0)), (1, .int (nI p)), (2, .int (nI (if A = B then 0 else 6))), (3, .int (nI (ro + 1)))] []) : V (xN D (tyL cI cZ cJ) l 2 46 w0 Pr) (cX5_check, wsX5_check, yX5_check.cls, 5, (some .int), yX5_check.name) 0 0 (wM ad cI cZ le la kd fs sc mi bh mz oo ie mo mp mf mq ms mt mc (nowOf A) lf he pi ot bf ar md) 102 [(0, .ref (ad 0)), (1, .int (nI p)), (2, .int (nI 0)), (3, .int (nI ro))] [] := by

  refine v_aload_n 103 rfl dX5_check_102 rfl rfl ?_
  refine v_callF (n := 0) (q0 := 0) (ci := 5) 106 rfl (m_endedW k i A B hmd hk hp hi hA hB2 hd hB) gX5_check_X5_ended rfl (by decide +kernel) rfl ⟨(Nat.le_of_ble_eq_true rfl), (Nat.le_of_ble_eq_true rfl)⟩ rfl (Nat.le_of_ble_eq_true rfl) rfl rfl rfl dX5_check_103 ⟨Nat.zero_le _, Nat.zero_le _⟩ rfl ?_
  refine v_st (st' := [.int (nI (if A = B then 0 else 6))]) rfl ?_
  refine v_istore_n (lv' := [(2, .int (nI (if A = B then 0 else 6))), (0, .ref (ad 0)), (1, .int (nI p)), (3, .int (nI ro))]) 107 rfl dX5_check_106 rfl (Nat.le_of_ble_eq_true rfl) rfl ?_
  refine v_goto 237 dX5_check_107 (by decide) ?_
  refine v_iinc (v := nI (ro + 1)) (lv' := [(3, .int (nI (ro + 1))), (2, .int (nI (if A = B then 0 else 6))), (0, .ref (ad 0)), (1, .int (nI p))]) 240 rfl dX5_check_237 3 rfl (nI_add _ _) (Nat.le_of_ble_eq_true rfl) rfl ?_
  refine v_goto 61 dX5_check_240 (by decide) ?_
  refine v_lv [2, 3, 1, 0] rfl ?_
  exact h

set_option maxRecDepth 100000 in
set_option maxHeartbeats 4000000 in
theorem mc_fault {D : va_G} {cI cZ cJ : ClassId} {l : Launch} {ad : Nat → Nat} {le : Nat → Int32} {la : Nat → Int32} {kd : Nat → Int32} {fs : Nat → Int32} {sc : Nat → Int32} {mi : Nat → Int32} {bh : Nat → Int32} {mz : Nat} {oo : Nat → Int32} {ie : Nat → Int32} {mo : Nat} {mp : Int32} {mf : Int32} {mq : Int32} {ms : Nat} {mt : Int32} {mc : Int32} {no : Nat → Int32} {lf : Nat → Int32} {he : Nat → Int32} {pi : Nat → Int32} {ot : Nat → Int32} {bf : Nat → Int32} {ar : Nat → Int32} {md : Nat} (p f ro : Nat) (hf : 0 < f) (hf9 : f < 9) (hro : ro < 200) {w0 : va_W} {Pr : Option Value → va_W → Prop} (hPr : Pr (some (.int (nI f))) (wM ad cI cZ le la kd fs sc mi bh mz oo ie mo mp mf mq ms mt mc no lf he pi ot bf ar md)) : V (xN D (tyL cI cZ cJ) l 2 46 w0 Pr) (cX5_check, wsX5_check, yX5_check.cls, 5, (some .int), yX5_check.name) 0 0 (wM ad cI cZ le la kd fs sc mi bh mz oo ie mo mp mf mq ms mt mc no lf he pi ot bf ar md) 61 [(0, .ref (ad 0)), (1, .int (nI p)), (2, .int (nI f)), (3, .int (nI ro))] [] := by

  refine v_iload_n 62 rfl dX5_check_61 rfl rfl ?_
  refine v_sipush (v := nI 200) 65 rfl dX5_check_62 (by decide) ?_
  refine v_icmp_geN (a := ro) (b := 200) 243 68 rfl dX5_check_65 (by decide) (by omega) (by omega) (fun q => False.elim (by omega)) (fun c65 => ?_)
  refine v_iload_n 69 rfl dX5_check_68 rfl rfl ?_
  refine v_if_neN (a := f) 243 72 rfl dX5_check_69 (by decide) (by omega) (fun c69 => ?_) (fun q => False.elim (by omega))
  refine v_iload_n 244 rfl dX5_check_243 rfl rfl ?_
  refine v_if_neN (a := f) 265 247 rfl dX5_check_244 (by decide) (by omega) (fun c244 => ?_) (fun q => False.elim (by omega))
  refine v_iload_n 266 rfl dX5_check_265 rfl rfl ?_
  refine v_if_neN (a := f) 274 269 rfl dX5_check_266 (by decide) (by omega) (fun c266 => ?_) (fun q => False.elim (by omega))
  refine v_iload_n 275 rfl dX5_check_274 rfl rfl ?_
  exact v_iretE dX5_check_275 rfl hPr

set_option maxRecDepth 100000 in
set_option maxHeartbeats 4000000 in
theorem mc_done {D : va_G} {cI cZ cJ : ClassId} {l : Launch} {ad : Nat → Nat} {le : Nat → Int32} {la : Nat → Int32} {kd : Nat → Int32} {fs : Nat → Int32} {sc : Nat → Int32} {mi : Nat → Int32} {bh : Nat → Int32} {mz : Nat} {oo : Nat → Int32} {ie : Nat → Int32} {mo : Nat} {mp : Int32} {mf : Int32} {mq : Int32} {ms : Nat} {mt : Int32} {mc : Int32} {lf : Nat → Int32} {he : Nat → Int32} {pi : Nat → Int32} {ot : Nat → Int32} {bf : Nat → Int32} {ar : Nat → Int32} {md : Nat} (p ro : Nat) (hp : p = mz) (hmd : md = 0) (hz : mz ≤ 40) (hro : ro < 200) (tn : Nat → Nat) (fb : Nat → Bool) (A : Nat) (hA : Okh A) (hla : ∀ p s : Nat, p < 3 → s < 5 → la (5 * p + s) = bI (fb (8 * p + s))) {w0 : va_W} {Pr : Option Value → va_W → Prop} (hPr : Pr (some (.int (nI (leav fb A 4 0)))) (wM ad cI cZ le la kd fs sc mi bh mz oo ie mo (if leav fb A 4 0 = 0 then -1 else nI mz) mf mq ms mt mc (nowOf A) lf he pi ot bf ar md)) : V (xN D (tyL cI cZ cJ) l 2 46 w0 Pr) (cX5_check, wsX5_check, yX5_check.cls, 5, (some .int), yX5_check.name) 0 0 (wM ad cI cZ le la kd fs sc mi bh mz oo ie mo mp mf mq ms mt mc (nowOf A) lf he pi ot bf ar md) 61 [(0, .ref (ad 0)), (1, .int (nI p)), (2, .int (nI 0)), (3, .int (nI ro))] [] := by
  have i5 : ∀ w ∈ u_ws RX5 TX5 25, w ∈ wsX5_check := by decide +kernel
  refine v_iload_n 62 rfl dX5_check_61 rfl rfl ?_
  refine v_sipush (v := nI 200) 65 rfl dX5_check_62 (by decide) ?_
  refine v_icmp_geN (a := ro) (b := 200) 243 68 rfl dX5_check_65 (by decide) (by omega) (by omega) (fun q => False.elim (by omega)) (fun c65 => ?_)
  refine v_iload_n 69 rfl dX5_check_68 rfl rfl ?_
  refine v_if_neN (a := 0) 243 72 rfl dX5_check_69 (by decide) (by omega) (fun q => False.elim (by omega)) (fun c69 => ?_)
  refine v_iload_n 73 rfl dX5_check_72 rfl rfl ?_
  refine v_aload_n 74 rfl dX5_check_73 rfl rfl ?_
  refine v_get (ci := 5) (C := RX5) (T := TX5) (N := 25) (v := .int (nI mz)) 77 rfl 0 7 dX5_check_74 rfl (Nat.le_of_ble_eq_true rfl) i5 (by decide +kernel) rfl rfl ?_
  refine v_icmp_ltN (a := p) (b := mz) 87 80 rfl dX5_check_77 (by decide) (by omega) (by omega) (fun q => False.elim (by omega)) (fun c77 => ?_)
  refine v_aload_n 81 rfl dX5_check_80 rfl rfl ?_
  refine v_get (ci := 5) (C := RX5) (T := TX5) (N := 25) (v := .int (nI md)) 84 rfl 0 24 dX5_check_81 rfl (Nat.le_of_ble_eq_true rfl) i5 (by decide +kernel) rfl rfl ?_
  refine v_if_leN (a := md) 243 87 rfl dX5_check_84 (by decide) (by omega) (fun c84 => ?_) (fun q => False.elim (by omega))
  refine v_iload_n 244 rfl dX5_check_243 rfl rfl ?_
  refine v_if_neN (a := 0) 265 247 rfl dX5_check_244 (by decide) (by omega) (fun q => False.elim (by omega)) (fun c244 => ?_)
  refine v_aload_n 248 rfl dX5_check_247 rfl rfl ?_
  refine v_callF (n := 0) (q0 := 0) (ci := 5) 251 rfl (m_unfinished tn fb A hA hla) gX5_check_X5_unfinished rfl (by decide +kernel) rfl ⟨(Nat.le_of_ble_eq_true rfl), (Nat.le_of_ble_eq_true rfl)⟩ rfl (Nat.le_of_ble_eq_true rfl) rfl rfl rfl dX5_check_248 ⟨Nat.zero_le _, Nat.zero_le _⟩ rfl ?_
  refine v_st (st' := [.int (bI (decide (leav fb A 4 0 ≠ 0)))]) rfl ?_
  refine v_if_eqB (b := decide (leav fb A 4 0 ≠ 0)) 265 254 rfl dX5_check_251 (by decide) (fun c251 => ?_) (fun c251 => ?_)
  · have z : leav fb A 4 0 = 0 := by simpa using c251
    refine v_iload_n 266 rfl dX5_check_265 rfl rfl ?_
    refine v_if_neN (a := 0) 274 269 rfl dX5_check_266 (by decide) (by omega) (fun q => False.elim (by omega)) (fun c266 => ?_)
    refine v_aload_n 270 rfl dX5_check_269 rfl rfl ?_
    refine v_iconst (v := -1) 271 rfl dX5_check_270 (by decide) ?_
    refine v_put (ci := 5) (C := RX5) (T := TX5) (ty0 := tyX5) (N := 25) (ty := .int) (w' := wM ad cI cZ le la kd fs sc mi bh mz oo ie mo (-1) mf mq ms mt mc (nowOf A) lf he pi ot bf ar md) 274 rfl 0 11 dX5_check_271 rfl (Nat.le_of_ble_eq_true rfl) i5 tyX5_ok nmX5 (by decide +kernel) rfl (by decide +kernel) rfl rfl rfl (Nat.le_of_ble_eq_true rfl) rfl ?_
    refine v_iload_n 275 rfl dX5_check_274 rfl rfl ?_
    exact v_iretE dX5_check_275 rfl (by rw [z] at hPr; exact hPr)
  · have z : leav fb A 4 0 = 7 := by have := leav_v fb A 4 0; simp at c251; omega
    refine v_aload_n 255 rfl dX5_check_254 rfl rfl ?_
    refine v_aload_n 256 rfl dX5_check_255 rfl rfl ?_
    refine v_get (ci := 5) (C := RX5) (T := TX5) (N := 25) (v := .int (nI mz)) 259 rfl 0 7 dX5_check_256 rfl (Nat.le_of_ble_eq_true rfl) i5 (by decide +kernel) rfl rfl ?_
    refine v_put (ci := 5) (C := RX5) (T := TX5) (ty0 := tyX5) (N := 25) (ty := .int) (w' := wM ad cI cZ le la kd fs sc mi bh mz oo ie mo (nI mz) mf mq ms mt mc (nowOf A) lf he pi ot bf ar md) 262 rfl 0 11 dX5_check_259 rfl (Nat.le_of_ble_eq_true rfl) i5 tyX5_ok nmX5 (by decide +kernel) rfl (by decide +kernel) rfl rfl rfl (Nat.le_of_ble_eq_true rfl) rfl ?_
    refine v_bipush (v := nI 7) 264 rfl dX5_check_262 (by decide) ?_
    exact v_iretE dX5_check_264 rfl (by rw [z] at hPr; exact hPr)

set_option maxRecDepth 100000 in
set_option maxHeartbeats 4000000 in
theorem mc_begin {D : va_G} {cI cZ cJ : ClassId} {l : Launch} {ad : Nat → Nat} {le : Nat → Int32} {la : Nat → Int32} {kd : Nat → Int32} {fs : Nat → Int32} {sc : Nat → Int32} {mi : Nat → Int32} {bh : Nat → Int32} {mz : Nat} {oo : Nat → Int32} {ie : Nat → Int32} {mo : Nat} {mp : Int32} {mf : Int32} {mq : Int32} {ms : Nat} {mt : Int32} {mc : Int32} {no : Nat → Int32} {lf : Nat → Int32} {he : Nat → Int32} {pi : Nat → Int32} {ot : Nat → Int32} {bf : Nat → Int32} {ar : Nat → Int32} {md : Nat} (hno : ∀ j, 4 ≤ j → no j = 0) (hmo : mo = 0) {w0 : va_W} {Pr : Option Value → va_W → Prop} (h : V (xN D (tyL cI cZ cJ) l 2 46 w0 Pr) (cX5_check, wsX5_check, yX5_check.cls, 5, (some .int), yX5_check.name) 0 0 (wM ad cI cZ le la kd fs sc mi bh mz oo ie mo (nI mz) mf mq ms (nI 0) (nI 1) (nowOf 0) lf (fillF he 160 (-2)) pi ot bf ar 0) 61 [(0, .ref (ad 0)), (1, .int (nI 0)), (2, .int (nI 0)), (3, .int (nI 0))] []) : V (xN D (tyL cI cZ cJ) l 2 46 w0 Pr) (cX5_check, wsX5_check, yX5_check.cls, 5, (some .int), yX5_check.name) 0 0 (wM ad cI cZ le la kd fs sc mi bh mz oo ie mo mp mf mq ms mt mc no lf he pi ot bf ar md) 0 [(0, .ref (ad 0))] [] := by
  have i5 : ∀ w ∈ u_ws RX5 TX5 25, w ∈ wsX5_check := by decide +kernel
  have fin : V (xN D (tyL cI cZ cJ) l 2 46 w0 Pr) (cX5_check, wsX5_check, yX5_check.cls, 5, (some .int), yX5_check.name) 0 0 (wM ad cI cZ le la kd fs sc mi bh mz oo ie mo mp mf mq ms (nI 0) (nI 1) no lf (fillF he 160 (-2)) pi ot bf ar md) 33 [(0, .ref (ad 0))] [] := by
    refine v_aload_n 34 rfl dX5_check_33 rfl rfl ?_
    refine v_aload_n 35 rfl dX5_check_34 rfl rfl ?_
    refine v_get (ci := 5) (C := RX5) (T := TX5) (N := 25) (v := .int (nI mz)) 38 rfl 0 7 dX5_check_35 rfl (Nat.le_of_ble_eq_true rfl) i5 (by decide +kernel) rfl rfl ?_
    refine v_put (ci := 5) (C := RX5) (T := TX5) (ty0 := tyX5) (N := 25) (ty := .int) (w' := wM ad cI cZ le la kd fs sc mi bh mz oo ie mo (nI mz) mf mq ms (nI 0) (nI 1) no lf (fillF he 160 (-2)) pi ot bf ar md) 41 rfl 0 11 dX5_check_38 rfl (Nat.le_of_ble_eq_true rfl) i5 tyX5_ok nmX5 (by decide +kernel) rfl (by decide +kernel) rfl rfl rfl (Nat.le_of_ble_eq_true rfl) rfl ?_
    refine v_aload_n 42 rfl dX5_check_41 rfl rfl ?_
    refine v_get (ci := 5) (C := RX5) (T := TX5) (N := 25) (v := .int (nI mo)) 45 rfl 0 10 dX5_check_42 rfl (Nat.le_of_ble_eq_true rfl) i5 (by decide +kernel) rfl rfl ?_
    refine v_if_leN (a := mo) 51 48 rfl dX5_check_45 (by decide) (by omega) (fun c45 => ?_) (fun q => False.elim (by omega))
    refine v_aload_n 52 rfl dX5_check_51 rfl rfl ?_
    refine v_callF (n := 0) (q0 := 0) (ci := 5) 55 rfl (m_nothing hno) gX5_check_X5_nothing rfl (by decide +kernel) rfl ⟨(Nat.le_of_ble_eq_true rfl), (Nat.le_of_ble_eq_true rfl)⟩ rfl (Nat.le_of_ble_eq_true rfl) rfl rfl rfl dX5_check_52 ⟨Nat.zero_le _, Nat.zero_le _⟩ rfl ?_
    refine v_st (st' := []) rfl ?_
    refine v_iconst (v := nI 0) 56 rfl dX5_check_55 (by decide) ?_
    refine v_istore_n (lv' := [(1, .int (nI 0)), (0, .ref (ad 0))]) 57 rfl dX5_check_56 rfl (Nat.le_of_ble_eq_true rfl) rfl ?_
    refine v_iconst (v := nI 0) 58 rfl dX5_check_57 (by decide) ?_
    refine v_istore_n (lv' := [(2, .int (nI 0)), (1, .int (nI 0)), (0, .ref (ad 0))]) 59 rfl dX5_check_58 rfl (Nat.le_of_ble_eq_true rfl) rfl ?_
    refine v_iconst (v := nI 0) 60 rfl dX5_check_59 (by decide) ?_
    refine v_istore_n (lv' := [(3, .int (nI 0)), (2, .int (nI 0)), (1, .int (nI 0)), (0, .ref (ad 0))]) 61 rfl dX5_check_60 rfl (Nat.le_of_ble_eq_true rfl) rfl ?_
    refine v_lv [3, 2, 1, 0] rfl ?_
    exact h
  have loop : ∀ (n j : Nat), j + n = 160 → V (xN D (tyL cI cZ cJ) l 2 46 w0 Pr) (cX5_check, wsX5_check, yX5_check.cls, 5, (some .int), yX5_check.name) 0 0 (wM ad cI cZ le la kd fs sc mi bh mz oo ie mo mp mf mq ms (nI 0) (nI 1) no lf (fillF he j (-2)) pi ot bf ar md) 12 [(0, .ref (ad 0)), (1, .int (nI j))] [] := by
    intro n
    induction n with
    | zero =>
      intro j hj
      obtain rfl : j = 160 := by omega
      refine v_iload_n 13 rfl dX5_check_12 rfl rfl ?_
      refine v_sipush (v := nI 160) 16 rfl dX5_check_13 (by decide) ?_
      refine v_icmp_geN (a := 160) (b := 160) 33 19 rfl dX5_check_16 (by decide) (by omega) (by omega) (fun c16 => ?_) (fun q => False.elim (by omega))
      refine v_lv [0] rfl ?_
      exact fin
    | succ n ih =>
      intro j hj
      refine v_iload_n 13 rfl dX5_check_12 rfl rfl ?_
      refine v_sipush (v := nI 160) 16 rfl dX5_check_13 (by decide) ?_
      refine v_icmp_geN (a := j) (b := 160) 33 19 rfl dX5_check_16 (by decide) (by omega) (by omega) (fun q => False.elim (by omega)) (fun c16 => ?_)
      refine v_aload_n 20 rfl dX5_check_19 rfl rfl ?_
      refine v_get (ci := 5) (C := RX5) (T := TX5) (N := 25) (v := .ref (ad 12)) 23 rfl 0 19 dX5_check_20 rfl (Nat.le_of_ble_eq_true rfl) i5 (by decide +kernel) rfl rfl ?_
      refine v_iload_n 24 rfl dX5_check_23 rfl rfl ?_
      refine v_bipush (v := -2) 26 rfl dX5_check_24 (by decide) ?_
      refine v_iast (j := j) (w' := wM ad cI cZ le la kd fs sc mi bh mz oo ie mo mp mf mq ms (nI 0) (nI 1) no lf (fillF he (j + 1) (-2)) pi ot bf ar md) 27 rfl 12 0 dX5_check_26 rfl rfl (by omega) (by decide) (by rw [← fillF_s]; rfl) ?_
      refine v_iinc (v := nI (j + 1)) (lv' := [(1, .int (nI (j + 1))), (0, .ref (ad 0))]) 30 rfl dX5_check_27 1 rfl (nI_add _ _) (Nat.le_of_ble_eq_true rfl) rfl ?_
      refine v_goto 12 dX5_check_30 (by decide) ?_
      refine v_lv [1, 0] rfl ?_
      exact ih (j + 1) (by omega)
  refine v_w (w' := wM ad cI cZ le la kd fs sc mi bh mz oo ie mo mp mf mq ms mt mc no lf (fillF he 0 (-2)) pi ot bf ar md) (by rw [fillF_0]) ?_
  refine v_aload_n 1 rfl dX5_check_0 rfl rfl ?_
  refine v_iconst (v := nI 0) 2 rfl dX5_check_1 (by decide) ?_
  refine v_put (ci := 5) (C := RX5) (T := TX5) (ty0 := tyX5) (N := 25) (ty := .int) (w' := wM ad cI cZ le la kd fs sc mi bh mz oo ie mo mp mf mq ms (nI 0) mc no lf (fillF he 0 (-2)) pi ot bf ar md) 5 rfl 0 15 dX5_check_2 rfl (Nat.le_of_ble_eq_true rfl) i5 tyX5_ok nmX5 (by decide +kernel) rfl (by decide +kernel) rfl rfl rfl (Nat.le_of_ble_eq_true rfl) rfl ?_
  refine v_aload_n 6 rfl dX5_check_5 rfl rfl ?_
  refine v_iconst (v := nI 1) 7 rfl dX5_check_6 (by decide) ?_
  refine v_put (ci := 5) (C := RX5) (T := TX5) (ty0 := tyX5) (N := 25) (ty := .boolean) (w' := wM ad cI cZ le la kd fs sc mi bh mz oo ie mo mp mf mq ms (nI 0) (nI 1) no lf (fillF he 0 (-2)) pi ot bf ar md) 10 rfl 0 16 dX5_check_7 rfl (Nat.le_of_ble_eq_true rfl) i5 tyX5_ok nmX5 (by decide +kernel) rfl (by decide +kernel) (by decide) (by decide) rfl (Nat.le_of_ble_eq_true rfl) rfl ?_
  refine v_iconst (v := nI 0) 11 rfl dX5_check_10 (by decide) ?_
  refine v_istore_n (lv' := [(1, .int (nI 0)), (0, .ref (ad 0))]) 12 rfl dX5_check_11 rfl (Nat.le_of_ble_eq_true rfl) rfl ?_
  refine v_lv [1, 0] rfl ?_
  exact loop 160 0 rfl

set_option maxRecDepth 100000 in
set_option maxHeartbeats 4000000 in
theorem mc_begin8 {D : va_G} {cI cZ cJ : ClassId} {l : Launch} {ad : Nat → Nat} {le : Nat → Int32} {la : Nat → Int32} {kd : Nat → Int32} {fs : Nat → Int32} {sc : Nat → Int32} {mi : Nat → Int32} {bh : Nat → Int32} {mz : Nat} {oo : Nat → Int32} {ie : Nat → Int32} {mo : Nat} {mp : Int32} {mf : Int32} {mq : Int32} {ms : Nat} {mt : Int32} {mc : Int32} {no : Nat → Int32} {lf : Nat → Int32} {he : Nat → Int32} {pi : Nat → Int32} {ot : Nat → Int32} {bf : Nat → Int32} {ar : Nat → Int32} {md : Nat} (hmo : 0 < mo) (hmo6 : mo ≤ 6) {w0 : va_W} {Pr : Option Value → va_W → Prop} (hPr : Pr (some (.int (nI 8))) (wM ad cI cZ le la kd fs sc mi bh mz oo ie mo (nI mz) mf mq ms (nI 0) (nI 1) no lf (fillF he 160 (-2)) pi ot bf ar md)) : V (xN D (tyL cI cZ cJ) l 2 46 w0 Pr) (cX5_check, wsX5_check, yX5_check.cls, 5, (some .int), yX5_check.name) 0 0 (wM ad cI cZ le la kd fs sc mi bh mz oo ie mo mp mf mq ms mt mc no lf he pi ot bf ar md) 0 [(0, .ref (ad 0))] [] := by
  have i5 : ∀ w ∈ u_ws RX5 TX5 25, w ∈ wsX5_check := by decide +kernel
  have fin : V (xN D (tyL cI cZ cJ) l 2 46 w0 Pr) (cX5_check, wsX5_check, yX5_check.cls, 5, (some .int), yX5_check.name) 0 0 (wM ad cI cZ le la kd fs sc mi bh mz oo ie mo mp mf mq ms (nI 0) (nI 1) no lf (fillF he 160 (-2)) pi ot bf ar md) 33 [(0, .ref (ad 0))] [] := by
    refine v_aload_n 34 rfl dX5_check_33 rfl rfl ?_
    refine v_aload_n 35 rfl dX5_check_34 rfl rfl ?_
    refine v_get (ci := 5) (C := RX5) (T := TX5) (N := 25) (v := .int (nI mz)) 38 rfl 0 7 dX5_check_35 rfl (Nat.le_of_ble_eq_true rfl) i5 (by decide +kernel) rfl rfl ?_
    refine v_put (ci := 5) (C := RX5) (T := TX5) (ty0 := tyX5) (N := 25) (ty := .int) (w' := wM ad cI cZ le la kd fs sc mi bh mz oo ie mo (nI mz) mf mq ms (nI 0) (nI 1) no lf (fillF he 160 (-2)) pi ot bf ar md) 41 rfl 0 11 dX5_check_38 rfl (Nat.le_of_ble_eq_true rfl) i5 tyX5_ok nmX5 (by decide +kernel) rfl (by decide +kernel) rfl rfl rfl (Nat.le_of_ble_eq_true rfl) rfl ?_
    refine v_aload_n 42 rfl dX5_check_41 rfl rfl ?_
    refine v_get (ci := 5) (C := RX5) (T := TX5) (N := 25) (v := .int (nI mo)) 45 rfl 0 10 dX5_check_42 rfl (Nat.le_of_ble_eq_true rfl) i5 (by decide +kernel) rfl rfl ?_
    refine v_if_leN (a := mo) 51 48 rfl dX5_check_45 (by decide) (by omega) (fun q => False.elim (by omega)) (fun c45 => ?_)
    refine v_bipush (v := nI 8) 50 rfl dX5_check_48 (by decide) ?_
    exact v_iretE dX5_check_50 rfl hPr
  have loop : ∀ (n j : Nat), j + n = 160 → V (xN D (tyL cI cZ cJ) l 2 46 w0 Pr) (cX5_check, wsX5_check, yX5_check.cls, 5, (some .int), yX5_check.name) 0 0 (wM ad cI cZ le la kd fs sc mi bh mz oo ie mo mp mf mq ms (nI 0) (nI 1) no lf (fillF he j (-2)) pi ot bf ar md) 12 [(0, .ref (ad 0)), (1, .int (nI j))] [] := by
    intro n
    induction n with
    | zero =>
      intro j hj
      obtain rfl : j = 160 := by omega
      refine v_iload_n 13 rfl dX5_check_12 rfl rfl ?_
      refine v_sipush (v := nI 160) 16 rfl dX5_check_13 (by decide) ?_
      refine v_icmp_geN (a := 160) (b := 160) 33 19 rfl dX5_check_16 (by decide) (by omega) (by omega) (fun c16 => ?_) (fun q => False.elim (by omega))
      refine v_lv [0] rfl ?_
      exact fin
    | succ n ih =>
      intro j hj
      refine v_iload_n 13 rfl dX5_check_12 rfl rfl ?_
      refine v_sipush (v := nI 160) 16 rfl dX5_check_13 (by decide) ?_
      refine v_icmp_geN (a := j) (b := 160) 33 19 rfl dX5_check_16 (by decide) (by omega) (by omega) (fun q => False.elim (by omega)) (fun c16 => ?_)
      refine v_aload_n 20 rfl dX5_check_19 rfl rfl ?_
      refine v_get (ci := 5) (C := RX5) (T := TX5) (N := 25) (v := .ref (ad 12)) 23 rfl 0 19 dX5_check_20 rfl (Nat.le_of_ble_eq_true rfl) i5 (by decide +kernel) rfl rfl ?_
      refine v_iload_n 24 rfl dX5_check_23 rfl rfl ?_
      refine v_bipush (v := -2) 26 rfl dX5_check_24 (by decide) ?_
      refine v_iast (j := j) (w' := wM ad cI cZ le la kd fs sc mi bh mz oo ie mo mp mf mq ms (nI 0) (nI 1) no lf (fillF he (j + 1) (-2)) pi ot bf ar md) 27 rfl 12 0 dX5_check_26 rfl rfl (by omega) (by decide) (by rw [← fillF_s]; rfl) ?_
      refine v_iinc (v := nI (j + 1)) (lv' := [(1, .int (nI (j + 1))), (0, .ref (ad 0))]) 30 rfl dX5_check_27 1 rfl (nI_add _ _) (Nat.le_of_ble_eq_true rfl) rfl ?_
      refine v_goto 12 dX5_check_30 (by decide) ?_
      refine v_lv [1, 0] rfl ?_
      exact ih (j + 1) (by omega)
  refine v_w (w' := wM ad cI cZ le la kd fs sc mi bh mz oo ie mo mp mf mq ms mt mc no lf (fillF he 0 (-2)) pi ot bf ar md) (by rw [fillF_0]) ?_
  refine v_aload_n 1 rfl dX5_check_0 rfl rfl ?_
  refine v_iconst (v := nI 0) 2 rfl dX5_check_1 (by decide) ?_
  refine v_put (ci := 5) (C := RX5) (T := TX5) (ty0 := tyX5) (N := 25) (ty := .int) (w' := wM ad cI cZ le la kd fs sc mi bh mz oo ie mo mp mf mq ms (nI 0) mc no lf (fillF he 0 (-2)) pi ot bf ar md) 5 rfl 0 15 dX5_check_2 rfl (Nat.le_of_ble_eq_true rfl) i5 tyX5_ok nmX5 (by decide +kernel) rfl (by decide +kernel) rfl rfl rfl (Nat.le_of_ble_eq_true rfl) rfl ?_
  refine v_aload_n 6 rfl dX5_check_5 rfl rfl ?_
  refine v_iconst (v := nI 1) 7 rfl dX5_check_6 (by decide) ?_
  refine v_put (ci := 5) (C := RX5) (T := TX5) (ty0 := tyX5) (N := 25) (ty := .boolean) (w' := wM ad cI cZ le la kd fs sc mi bh mz oo ie mo mp mf mq ms (nI 0) (nI 1) no lf (fillF he 0 (-2)) pi ot bf ar md) 10 rfl 0 16 dX5_check_7 rfl (Nat.le_of_ble_eq_true rfl) i5 tyX5_ok nmX5 (by decide +kernel) rfl (by decide +kernel) (by decide) (by decide) rfl (Nat.le_of_ble_eq_true rfl) rfl ?_
  refine v_iconst (v := nI 0) 11 rfl dX5_check_10 (by decide) ?_
  refine v_istore_n (lv' := [(1, .int (nI 0)), (0, .ref (ad 0))]) 12 rfl dX5_check_11 rfl (Nat.le_of_ble_eq_true rfl) rfl ?_
  refine v_lv [1, 0] rfl ?_
  exact loop 160 0 rfl

