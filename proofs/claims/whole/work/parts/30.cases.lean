/-! the law's loop, case by case -/
def LHd (x : XX) (k : KI) (cs ss pc : Nat) (ad bd : Nat → Nat) (cI cZ cJ : ClassId) (o : Nat) (lv : List (Nat × Value)) : Prop := ∀ (tg : Nat → Int32) (fn : Nat → Int32) (ki : Nat → Int32) (nu : Nat → Int32) (fi : Nat → Int32) (se : Nat → Int32) (ju : Nat → Int32) (op : Nat → Int32) (en : Nat) (sm : Nat) (ob : Nat) (be : Nat → Int32) (af : Nat → Int32) (pl : Int32) (rf : Int32) (rp : Int32) (rs : Nat) (ra : Nat) (rb : Int32) (rl : Nat) (le : Nat → Int32) (la : Nat → Int32) (kd : Nat → Int32) (fs : Nat → Int32) (sc : Nat → Int32) (mi : Nat → Int32) (bh : Nat → Int32) (oo : Nat → Int32) (ie : Nat → Int32) (mp : Int32) (mt : Int32) (mc : Int32) (no : Nat → Int32) (lf : Nat → Int32) (he : Nat → Int32) (pi : Nat → Int32) (ot : Nat → Int32) (bf : Nat → Int32) (ar : Nat → Int32) (md : Nat) (g : Nat → Int64), REL tg fn ki nu fi se ju op en sm ob be pl ra le la kd fs sc mi bh oo ie mp mc no lf he → V x k cs ss (wM bd cI cZ le la kd fs sc mi bh sm oo ie ob mp rf rp rs mt mc no lf he pi ot bf ar md ++ (wC ad cI cZ tg fn ki nu fi se ju op en sm ob be af pl rf rp rs ra rb rl ++ wO o cJ g)) pc lv []
abbrev lvj (j b a c o : Nat) : List (Nat × Value) := [(4, .int (nI (5 * j))), (0, .ref b), (1, .ref a), (2, .ref c), (3, .ref o)]
theorem lg_cmp_self (x : Int64) : lg_cmp x x = 0 := by simp [lg_cmp]
theorem bel_f {a b : Int32} (h : ¬ bel a b = true) : bel a b = false := by simpa using h

set_option maxRecDepth 100000 in
set_option maxHeartbeats 4000000 in
theorem k_lead {D : va_G} {cI cZ cJ : ClassId} {l : Launch} {b L : Nat} {xs : Nat → Int32} {sa : Nat → Nat} {nm : String} {ad bd : Nat → Nat} {o : Nat} (hlT : l.stackTraces = false) (j : Nat) (hj : 5 * j + 5 ≤ L) (hL : L ≤ 2560) (T : LHd (xLw D cI cZ cJ l b L xs sa) (kLw nm) (33 + j + 1) (1375 + 6 * j + 6) 665 ad bd cI cZ cJ o (lvj j b (ad 0) (bd 0) o)) : LHd (xLw D cI cZ cJ l b L xs sa) (kLw nm) (33 + j) (1375 + 6 * j) 132 ad bd cI cZ cJ o (lvj j b (ad 0) (bd 0) o) := by
  intro tg fn ki nu fi se ju op en sm ob be af pl rf rp rs ra rb rl le la kd fs sc mi bh oo ie mp mt mc no lf he pi ot bf ar md g hR
  obtain ⟨⟨tn, fb, htb⟩, hPR, hBe, hCh, hLf, hno⟩ := hR
  have hcs : 33 + j ≤ room_1.cells ∧ 1375 + 6 * j ≤ room_1.slots := ⟨by show 33 + j ≤ 1060; omega, by show 1375 + 6 * j ≤ 9585; omega⟩
  obtain ⟨hs40, ho6, hen, hen1⟩ := hPR.b
  by_cases hv : ((bel (xs (5 * j + 1)) (nI 3) && bel (xs (5 * j + 2)) (nI 5)) && bel (xs (5 * j + 3)) (nI 4) && (decide (xs (5 * j + 4) = -1) || bel (xs (5 * j + 4)) (nI 5))) = true
  · simp only [Bool.and_eq_true, Bool.or_eq_true, decide_eq_true_eq] at hv
    obtain ⟨⟨⟨v1, v2⟩, v3⟩, v4⟩ := hv
    obtain ⟨p, hp, ep⟩ := bel_t (by decide) v1
    obtain ⟨s, hs, es⟩ := bel_t (by decide) v2
    obtain ⟨e, hel, ee⟩ := bel_t (by decide) v3
    rcases v4 with et | v4
    · skip
      refine v_aload_n 133 rfl dL_law_132 rfl rfl ?_
      refine v_aload_n 134 rfl dL_law_133 rfl rfl ?_
      refine v_iload 136 rfl dL_law_134 rfl ?_
      refine v_iconst (v := nI 1) 137 rfl dL_law_136 (by decide) ?_
      refine v_iaddN (a := 5 * j) (b := 1) 138 rfl dL_law_137 ?_
      refine v_sld (i := 5 * j + 1) (v := nI p) 139 rfl dL_law_138 (by omega) (by omega) ep ?_
      refine v_aload_n 140 rfl dL_law_139 rfl rfl ?_
      refine v_iload 142 rfl dL_law_140 rfl ?_
      refine v_iconst (v := nI 2) 143 rfl dL_law_142 (by decide) ?_
      refine v_iaddN (a := 5 * j) (b := 2) 144 rfl dL_law_143 ?_
      refine v_sld (i := 5 * j + 2) (v := nI s) 145 rfl dL_law_144 (by omega) (by omega) es ?_
      refine v_aload_n 146 rfl dL_law_145 rfl rfl ?_
      refine v_iload 148 rfl dL_law_146 rfl ?_
      refine v_iconst (v := nI 3) 149 rfl dL_law_148 (by decide) ?_
      refine v_iaddN (a := 5 * j) (b := 3) 150 rfl dL_law_149 ?_
      refine v_sld (i := 5 * j + 3) (v := nI e) 151 rfl dL_law_150 (by omega) (by omega) ee ?_
      refine v_aload_n 152 rfl dL_law_151 rfl rfl ?_
      refine v_iload 154 rfl dL_law_152 rfl ?_
      refine v_iconst (v := nI 4) 155 rfl dL_law_154 (by decide) ?_
      refine v_iaddN (a := 5 * j) (b := 4) 156 rfl dL_law_155 ?_
      refine v_sld (i := 5 * j + 4) (v := -1) 157 rfl dL_law_156 (by omega) (by omega) et ?_
      refine v_callV (n := 4) (q0 := 0) (ci := 4) (C := RX4) (As := [.int (nI p), .int (nI s), .int (nI e), .int (-1)]) (wM bd cI cZ le la kd fs sc mi bh sm oo ie ob mp rf rp rs mt mc no lf he pi ot bf ar md) (wC ad cI cZ tg fn ki nu fi se ju op en sm ob be af pl rf rp rs ra rb rl) (wC ad cI cZ (upd tg ((8 * p + s) * 4 + e) (-1)) fn ki nu fi se ju op en sm ob be af pl rf rp rs ra rb rl) (wO o cJ g) 160 rfl (c_leadM p s e hp hs hel) gL_law_X4_lead rfl (by decide +kernel) rfl ⟨(Nat.le_of_ble_eq_true rfl), (Nat.le_of_ble_eq_true rfl)⟩ rfl (Nat.le_of_ble_eq_true rfl) rfl rfl rfl dL_law_157 hcs rfl rfl ?_
      refine v_w (w' := wM bd cI cZ le la kd fs sc mi bh sm oo ie ob mp rf rp rs mt mc no lf he pi ot bf ar md ++ (wC ad cI cZ (upd tg ((8 * p + s) * 4 + e) (-1)) fn ki nu fi se ju op en sm ob be af pl rf rp rs ra rb rl ++ wO o cJ g)) rfl ?_
      refine v_st (st' := [.int (bI true)]) rfl ?_
      refine v_aload_n 161 rfl dL_law_160 rfl rfl ?_
      refine v_aload_n 162 rfl dL_law_161 rfl rfl ?_
      refine v_iload 164 rfl dL_law_162 rfl ?_
      refine v_iconst (v := nI 1) 165 rfl dL_law_164 (by decide) ?_
      refine v_iaddN (a := 5 * j) (b := 1) 166 rfl dL_law_165 ?_
      refine v_sld (i := 5 * j + 1) (v := nI p) 167 rfl dL_law_166 (by omega) (by omega) ep ?_
      refine v_aload_n 168 rfl dL_law_167 rfl rfl ?_
      refine v_iload 170 rfl dL_law_168 rfl ?_
      refine v_iconst (v := nI 2) 171 rfl dL_law_170 (by decide) ?_
      refine v_iaddN (a := 5 * j) (b := 2) 172 rfl dL_law_171 ?_
      refine v_sld (i := 5 * j + 2) (v := nI s) 173 rfl dL_law_172 (by omega) (by omega) es ?_
      refine v_aload_n 174 rfl dL_law_173 rfl rfl ?_
      refine v_iload 176 rfl dL_law_174 rfl ?_
      refine v_iconst (v := nI 3) 177 rfl dL_law_176 (by decide) ?_
      refine v_iaddN (a := 5 * j) (b := 3) 178 rfl dL_law_177 ?_
      refine v_sld (i := 5 * j + 3) (v := nI e) 179 rfl dL_law_178 (by omega) (by omega) ee ?_
      refine v_aload_n 180 rfl dL_law_179 rfl rfl ?_
      refine v_iload 182 rfl dL_law_180 rfl ?_
      refine v_iconst (v := nI 4) 183 rfl dL_law_182 (by decide) ?_
      refine v_iaddN (a := 5 * j) (b := 4) 184 rfl dL_law_183 ?_
      refine v_sld (i := 5 * j + 4) (v := -1) 185 rfl dL_law_184 (by omega) (by omega) et ?_
      refine v_callV (n := 4) (q0 := 0) (ci := 5) (C := RX5) (As := [.int (nI p), .int (nI s), .int (nI e), .int (-1)]) ([]) (wM bd cI cZ le la kd fs sc mi bh sm oo ie ob mp rf rp rs mt mc no lf he pi ot bf ar md) (wM bd cI cZ (upd le (20 * p + 4 * s + e) (nI 0)) la kd fs sc mi bh sm oo ie ob mp rf rp rs (nI 0) mc no lf he pi ot bf ar md) (wC ad cI cZ (upd tg ((8 * p + s) * 4 + e) (-1)) fn ki nu fi se ju op en sm ob be af pl rf rp rs ra rb rl ++ wO o cJ g) 188 rfl (m_leadM p s e hp hs hel) gL_law_X5_lead rfl (by decide +kernel) rfl ⟨(Nat.le_of_ble_eq_true rfl), (Nat.le_of_ble_eq_true rfl)⟩ rfl (Nat.le_of_ble_eq_true rfl) rfl rfl rfl dL_law_185 hcs rfl rfl ?_
      refine v_w (w' := wM bd cI cZ (upd le (20 * p + 4 * s + e) (nI 0)) la kd fs sc mi bh sm oo ie ob mp rf rp rs (nI 0) mc no lf he pi ot bf ar md ++ (wC ad cI cZ (upd tg ((8 * p + s) * 4 + e) (-1)) fn ki nu fi se ju op en sm ob be af pl rf rp rs ra rb rl ++ wO o cJ g)) rfl ?_
      refine v_st (st' := [.int (bI true), .int (bI true)]) rfl ?_
      refine v_icmp_eq 665 191 rfl dL_law_188 (by decide) (fun _ => ?_) (fun q => absurd rfl q)
      refine v_widen (Nat.le_succ _) (Nat.le_add_right _ 6) ?_
      exact T (upd tg ((8 * p + s) * 4 + e) (-1)) fn ki nu fi se ju op en sm ob be af pl rf rp rs ra rb rl (upd le (20 * p + 4 * s + e) (nI 0)) la kd fs sc mi bh oo ie mp (nI 0) mc no lf he pi ot bf ar md g ⟨⟨_, fb, by have q := htb.lead (t := 0) hp hs hel (by omega); rw [oI_0] at q; exact q⟩, hPR, hBe, hCh, hLf, hno⟩
    · obtain ⟨t, ht, et⟩ := bel_t (by decide) v4
      refine v_aload_n 133 rfl dL_law_132 rfl rfl ?_
      refine v_aload_n 134 rfl dL_law_133 rfl rfl ?_
      refine v_iload 136 rfl dL_law_134 rfl ?_
      refine v_iconst (v := nI 1) 137 rfl dL_law_136 (by decide) ?_
      refine v_iaddN (a := 5 * j) (b := 1) 138 rfl dL_law_137 ?_
      refine v_sld (i := 5 * j + 1) (v := nI p) 139 rfl dL_law_138 (by omega) (by omega) ep ?_
      refine v_aload_n 140 rfl dL_law_139 rfl rfl ?_
      refine v_iload 142 rfl dL_law_140 rfl ?_
      refine v_iconst (v := nI 2) 143 rfl dL_law_142 (by decide) ?_
      refine v_iaddN (a := 5 * j) (b := 2) 144 rfl dL_law_143 ?_
      refine v_sld (i := 5 * j + 2) (v := nI s) 145 rfl dL_law_144 (by omega) (by omega) es ?_
      refine v_aload_n 146 rfl dL_law_145 rfl rfl ?_
      refine v_iload 148 rfl dL_law_146 rfl ?_
      refine v_iconst (v := nI 3) 149 rfl dL_law_148 (by decide) ?_
      refine v_iaddN (a := 5 * j) (b := 3) 150 rfl dL_law_149 ?_
      refine v_sld (i := 5 * j + 3) (v := nI e) 151 rfl dL_law_150 (by omega) (by omega) ee ?_
      refine v_aload_n 152 rfl dL_law_151 rfl rfl ?_
      refine v_iload 154 rfl dL_law_152 rfl ?_
      refine v_iconst (v := nI 4) 155 rfl dL_law_154 (by decide) ?_
      refine v_iaddN (a := 5 * j) (b := 4) 156 rfl dL_law_155 ?_
      refine v_sld (i := 5 * j + 4) (v := nI t) 157 rfl dL_law_156 (by omega) (by omega) et ?_
      refine v_callV (n := 4) (q0 := 0) (ci := 4) (C := RX4) (As := [.int (nI p), .int (nI s), .int (nI e), .int (nI t)]) (wM bd cI cZ le la kd fs sc mi bh sm oo ie ob mp rf rp rs mt mc no lf he pi ot bf ar md) (wC ad cI cZ tg fn ki nu fi se ju op en sm ob be af pl rf rp rs ra rb rl) (wC ad cI cZ (upd tg ((8 * p + s) * 4 + e) (nI t)) fn ki nu fi se ju op en sm ob be af pl rf rp rs ra rb rl) (wO o cJ g) 160 rfl (c_leadN p s e t hp hs hel ht) gL_law_X4_lead rfl (by decide +kernel) rfl ⟨(Nat.le_of_ble_eq_true rfl), (Nat.le_of_ble_eq_true rfl)⟩ rfl (Nat.le_of_ble_eq_true rfl) rfl rfl rfl dL_law_157 hcs rfl rfl ?_
      refine v_w (w' := wM bd cI cZ le la kd fs sc mi bh sm oo ie ob mp rf rp rs mt mc no lf he pi ot bf ar md ++ (wC ad cI cZ (upd tg ((8 * p + s) * 4 + e) (nI t)) fn ki nu fi se ju op en sm ob be af pl rf rp rs ra rb rl ++ wO o cJ g)) rfl ?_
      refine v_st (st' := [.int (bI true)]) rfl ?_
      refine v_aload_n 161 rfl dL_law_160 rfl rfl ?_
      refine v_aload_n 162 rfl dL_law_161 rfl rfl ?_
      refine v_iload 164 rfl dL_law_162 rfl ?_
      refine v_iconst (v := nI 1) 165 rfl dL_law_164 (by decide) ?_
      refine v_iaddN (a := 5 * j) (b := 1) 166 rfl dL_law_165 ?_
      refine v_sld (i := 5 * j + 1) (v := nI p) 167 rfl dL_law_166 (by omega) (by omega) ep ?_
      refine v_aload_n 168 rfl dL_law_167 rfl rfl ?_
      refine v_iload 170 rfl dL_law_168 rfl ?_
      refine v_iconst (v := nI 2) 171 rfl dL_law_170 (by decide) ?_
      refine v_iaddN (a := 5 * j) (b := 2) 172 rfl dL_law_171 ?_
      refine v_sld (i := 5 * j + 2) (v := nI s) 173 rfl dL_law_172 (by omega) (by omega) es ?_
      refine v_aload_n 174 rfl dL_law_173 rfl rfl ?_
      refine v_iload 176 rfl dL_law_174 rfl ?_
      refine v_iconst (v := nI 3) 177 rfl dL_law_176 (by decide) ?_
      refine v_iaddN (a := 5 * j) (b := 3) 178 rfl dL_law_177 ?_
      refine v_sld (i := 5 * j + 3) (v := nI e) 179 rfl dL_law_178 (by omega) (by omega) ee ?_
      refine v_aload_n 180 rfl dL_law_179 rfl rfl ?_
      refine v_iload 182 rfl dL_law_180 rfl ?_
      refine v_iconst (v := nI 4) 183 rfl dL_law_182 (by decide) ?_
      refine v_iaddN (a := 5 * j) (b := 4) 184 rfl dL_law_183 ?_
      refine v_sld (i := 5 * j + 4) (v := nI t) 185 rfl dL_law_184 (by omega) (by omega) et ?_
      refine v_callV (n := 4) (q0 := 0) (ci := 5) (C := RX5) (As := [.int (nI p), .int (nI s), .int (nI e), .int (nI t)]) ([]) (wM bd cI cZ le la kd fs sc mi bh sm oo ie ob mp rf rp rs mt mc no lf he pi ot bf ar md) (wM bd cI cZ (upd le (20 * p + 4 * s + e) (nI (t + 1))) la kd fs sc mi bh sm oo ie ob mp rf rp rs (nI 0) mc no lf he pi ot bf ar md) (wC ad cI cZ (upd tg ((8 * p + s) * 4 + e) (nI t)) fn ki nu fi se ju op en sm ob be af pl rf rp rs ra rb rl ++ wO o cJ g) 188 rfl (m_leadN p s e t hp hs hel ht) gL_law_X5_lead rfl (by decide +kernel) rfl ⟨(Nat.le_of_ble_eq_true rfl), (Nat.le_of_ble_eq_true rfl)⟩ rfl (Nat.le_of_ble_eq_true rfl) rfl rfl rfl dL_law_185 hcs rfl rfl ?_
      refine v_w (w' := wM bd cI cZ (upd le (20 * p + 4 * s + e) (nI (t + 1))) la kd fs sc mi bh sm oo ie ob mp rf rp rs (nI 0) mc no lf he pi ot bf ar md ++ (wC ad cI cZ (upd tg ((8 * p + s) * 4 + e) (nI t)) fn ki nu fi se ju op en sm ob be af pl rf rp rs ra rb rl ++ wO o cJ g)) rfl ?_
      refine v_st (st' := [.int (bI true), .int (bI true)]) rfl ?_
      refine v_icmp_eq 665 191 rfl dL_law_188 (by decide) (fun _ => ?_) (fun q => absurd rfl q)
      refine v_widen (Nat.le_succ _) (Nat.le_add_right _ 6) ?_
      exact T (upd tg ((8 * p + s) * 4 + e) (nI t)) fn ki nu fi se ju op en sm ob be af pl rf rp rs ra rb rl (upd le (20 * p + 4 * s + e) (nI (t + 1))) la kd fs sc mi bh oo ie mp (nI 0) mc no lf he pi ot bf ar md g ⟨⟨_, fb, by have q := htb.lead (t := t + 1) hp hs hel (by omega); rw [oI_s] at q; exact q⟩, hPR, hBe, hCh, hLf, hno⟩
  · have hv := (Bool.not_eq_true _).mp hv
    refine v_aload_n 133 rfl dL_law_132 rfl rfl ?_
    refine v_aload_n 134 rfl dL_law_133 rfl rfl ?_
    refine v_iload 136 rfl dL_law_134 rfl ?_
    refine v_iconst (v := nI 1) 137 rfl dL_law_136 (by decide) ?_
    refine v_iaddN (a := 5 * j) (b := 1) 138 rfl dL_law_137 ?_
    refine v_sld (i := 5 * j + 1) (v := xs (5 * j + 1)) 139 rfl dL_law_138 (by omega) (by omega) rfl ?_
    refine v_aload_n 140 rfl dL_law_139 rfl rfl ?_
    refine v_iload 142 rfl dL_law_140 rfl ?_
    refine v_iconst (v := nI 2) 143 rfl dL_law_142 (by decide) ?_
    refine v_iaddN (a := 5 * j) (b := 2) 144 rfl dL_law_143 ?_
    refine v_sld (i := 5 * j + 2) (v := xs (5 * j + 2)) 145 rfl dL_law_144 (by omega) (by omega) rfl ?_
    refine v_aload_n 146 rfl dL_law_145 rfl rfl ?_
    refine v_iload 148 rfl dL_law_146 rfl ?_
    refine v_iconst (v := nI 3) 149 rfl dL_law_148 (by decide) ?_
    refine v_iaddN (a := 5 * j) (b := 3) 150 rfl dL_law_149 ?_
    refine v_sld (i := 5 * j + 3) (v := xs (5 * j + 3)) 151 rfl dL_law_150 (by omega) (by omega) rfl ?_
    refine v_aload_n 152 rfl dL_law_151 rfl rfl ?_
    refine v_iload 154 rfl dL_law_152 rfl ?_
    refine v_iconst (v := nI 4) 155 rfl dL_law_154 (by decide) ?_
    refine v_iaddN (a := 5 * j) (b := 4) 156 rfl dL_law_155 ?_
    refine v_sld (i := 5 * j + 4) (v := xs (5 * j + 4)) 157 rfl dL_law_156 (by omega) (by omega) rfl ?_
    refine v_callV (n := 4) (q0 := 0) (ci := 4) (C := RX4) (As := [.int (xs (5 * j + 1)), .int (xs (5 * j + 2)), .int (xs (5 * j + 3)), .int (xs (5 * j + 4))]) (wM bd cI cZ le la kd fs sc mi bh sm oo ie ob mp rf rp rs mt mc no lf he pi ot bf ar md) (wC ad cI cZ tg fn ki nu fi se ju op en sm ob be af pl rf rp rs ra rb rl) (wC ad cI cZ tg fn ki nu fi se ju op en sm ob be af pl rf rp rs ra rb rl) (wO o cJ g) 160 rfl (c_leadNo _ _ _ _ hv) gL_law_X4_lead rfl (by decide +kernel) rfl ⟨(Nat.le_of_ble_eq_true rfl), (Nat.le_of_ble_eq_true rfl)⟩ rfl (Nat.le_of_ble_eq_true rfl) rfl rfl rfl dL_law_157 hcs rfl rfl ?_
    refine v_w (w' := wM bd cI cZ le la kd fs sc mi bh sm oo ie ob mp rf rp rs mt mc no lf he pi ot bf ar md ++ (wC ad cI cZ tg fn ki nu fi se ju op en sm ob be af pl rf rp rs ra rb rl ++ wO o cJ g)) rfl ?_
    refine v_st (st' := [.int (bI false)]) rfl ?_
    refine v_aload_n 161 rfl dL_law_160 rfl rfl ?_
    refine v_aload_n 162 rfl dL_law_161 rfl rfl ?_
    refine v_iload 164 rfl dL_law_162 rfl ?_
    refine v_iconst (v := nI 1) 165 rfl dL_law_164 (by decide) ?_
    refine v_iaddN (a := 5 * j) (b := 1) 166 rfl dL_law_165 ?_
    refine v_sld (i := 5 * j + 1) (v := xs (5 * j + 1)) 167 rfl dL_law_166 (by omega) (by omega) rfl ?_
    refine v_aload_n 168 rfl dL_law_167 rfl rfl ?_
    refine v_iload 170 rfl dL_law_168 rfl ?_
    refine v_iconst (v := nI 2) 171 rfl dL_law_170 (by decide) ?_
    refine v_iaddN (a := 5 * j) (b := 2) 172 rfl dL_law_171 ?_
    refine v_sld (i := 5 * j + 2) (v := xs (5 * j + 2)) 173 rfl dL_law_172 (by omega) (by omega) rfl ?_
    refine v_aload_n 174 rfl dL_law_173 rfl rfl ?_
    refine v_iload 176 rfl dL_law_174 rfl ?_
    refine v_iconst (v := nI 3) 177 rfl dL_law_176 (by decide) ?_
    refine v_iaddN (a := 5 * j) (b := 3) 178 rfl dL_law_177 ?_
    refine v_sld (i := 5 * j + 3) (v := xs (5 * j + 3)) 179 rfl dL_law_178 (by omega) (by omega) rfl ?_
    refine v_aload_n 180 rfl dL_law_179 rfl rfl ?_
    refine v_iload 182 rfl dL_law_180 rfl ?_
    refine v_iconst (v := nI 4) 183 rfl dL_law_182 (by decide) ?_
    refine v_iaddN (a := 5 * j) (b := 4) 184 rfl dL_law_183 ?_
    refine v_sld (i := 5 * j + 4) (v := xs (5 * j + 4)) 185 rfl dL_law_184 (by omega) (by omega) rfl ?_
    refine v_callV (n := 4) (q0 := 0) (ci := 5) (C := RX5) (As := [.int (xs (5 * j + 1)), .int (xs (5 * j + 2)), .int (xs (5 * j + 3)), .int (xs (5 * j + 4))]) ([]) (wM bd cI cZ le la kd fs sc mi bh sm oo ie ob mp rf rp rs mt mc no lf he pi ot bf ar md) (wM bd cI cZ le la kd fs sc mi bh sm oo ie ob mp rf rp rs (nI 0) mc no lf he pi ot bf ar md) (wC ad cI cZ tg fn ki nu fi se ju op en sm ob be af pl rf rp rs ra rb rl ++ wO o cJ g) 188 rfl (m_leadNo _ _ _ _ hv) gL_law_X5_lead rfl (by decide +kernel) rfl ⟨(Nat.le_of_ble_eq_true rfl), (Nat.le_of_ble_eq_true rfl)⟩ rfl (Nat.le_of_ble_eq_true rfl) rfl rfl rfl dL_law_185 hcs rfl rfl ?_
    refine v_w (w' := wM bd cI cZ le la kd fs sc mi bh sm oo ie ob mp rf rp rs (nI 0) mc no lf he pi ot bf ar md ++ (wC ad cI cZ tg fn ki nu fi se ju op en sm ob be af pl rf rp rs ra rb rl ++ wO o cJ g)) rfl ?_
    refine v_st (st' := [.int (bI false), .int (bI false)]) rfl ?_
    refine v_icmp_eq 665 191 rfl dL_law_188 (by decide) (fun _ => ?_) (fun q => absurd rfl q)
    refine v_widen (Nat.le_succ _) (Nat.le_add_right _ 6) ?_
    exact T tg fn ki nu fi se ju op en sm ob be af pl rf rp rs ra rb rl le la kd fs sc mi bh oo ie mp (nI 0) mc no lf he pi ot bf ar md g ⟨⟨tn, fb, htb⟩, hPR, hBe, hCh, hLf, hno⟩
set_option maxRecDepth 100000 in
set_option maxHeartbeats 4000000 in
theorem k_mark {D : va_G} {cI cZ cJ : ClassId} {l : Launch} {b L : Nat} {xs : Nat → Int32} {sa : Nat → Nat} {nm : String} {ad bd : Nat → Nat} {o : Nat} (hlT : l.stackTraces = false) (j : Nat) (hj : 5 * j + 5 ≤ L) (hL : L ≤ 2560) (T : LHd (xLw D cI cZ cJ l b L xs sa) (kLw nm) (33 + j + 1) (1375 + 6 * j + 6) 665 ad bd cI cZ cJ o (lvj j b (ad 0) (bd 0) o)) : LHd (xLw D cI cZ cJ l b L xs sa) (kLw nm) (33 + j) (1375 + 6 * j) 193 ad bd cI cZ cJ o (lvj j b (ad 0) (bd 0) o) := by
  intro tg fn ki nu fi se ju op en sm ob be af pl rf rp rs ra rb rl le la kd fs sc mi bh oo ie mp mt mc no lf he pi ot bf ar md g hR
  obtain ⟨⟨tn, fb, htb⟩, hPR, hBe, hCh, hLf, hno⟩ := hR
  have hcs : 33 + j ≤ room_1.cells ∧ 1375 + 6 * j ≤ room_1.slots := ⟨by show 33 + j ≤ 1060; omega, by show 1375 + 6 * j ≤ 9585; omega⟩
  obtain ⟨hs40, ho6, hen, hen1⟩ := hPR.b
  by_cases hz : xs (5 * j + 3) = 0
  · skip
    by_cases hv : (bel (xs (5 * j + 1)) (nI 3) && bel (xs (5 * j + 2)) (nI 5)) = true
    · simp only [Bool.and_eq_true] at hv
      obtain ⟨p, hp, ep⟩ := bel_t (by decide) hv.1
      obtain ⟨s, hs, es⟩ := bel_t (by decide) hv.2
      refine v_aload_n 194 rfl dL_law_193 rfl rfl ?_
      refine v_aload_n 195 rfl dL_law_194 rfl rfl ?_
      refine v_iload 197 rfl dL_law_195 rfl ?_
      refine v_iconst (v := nI 1) 198 rfl dL_law_197 (by decide) ?_
      refine v_iaddN (a := 5 * j) (b := 1) 199 rfl dL_law_198 ?_
      refine v_sld (i := 5 * j + 1) (v := nI p) 200 rfl dL_law_199 (by omega) (by omega) ep ?_
      refine v_aload_n 201 rfl dL_law_200 rfl rfl ?_
      refine v_iload 203 rfl dL_law_201 rfl ?_
      refine v_iconst (v := nI 2) 204 rfl dL_law_203 (by decide) ?_
      refine v_iaddN (a := 5 * j) (b := 2) 205 rfl dL_law_204 ?_
      refine v_sld (i := 5 * j + 2) (v := nI s) 206 rfl dL_law_205 (by omega) (by omega) es ?_
      refine v_aload_n 207 rfl dL_law_206 rfl rfl ?_
      refine v_iload 209 rfl dL_law_207 rfl ?_
      refine v_iconst (v := nI 3) 210 rfl dL_law_209 (by decide) ?_
      refine v_iaddN (a := 5 * j) (b := 3) 211 rfl dL_law_210 ?_
      refine v_sld (i := 5 * j + 3) (v := xs (5 * j + 3)) 212 rfl dL_law_211 (by omega) (by omega) rfl ?_
      refine v_if_eq 219 215 rfl dL_law_212 (by decide) (fun _ => ?_) (fun q => absurd hz q)
      refine v_iconst (v := bI false) 220 rfl dL_law_219 (by decide) ?_
      refine v_callV (n := 3) (q0 := 0) (ci := 4) (C := RX4) (As := [.int (nI p), .int (nI s), .int (bI false)]) (wM bd cI cZ le la kd fs sc mi bh sm oo ie ob mp rf rp rs mt mc no lf he pi ot bf ar md) (wC ad cI cZ tg fn ki nu fi se ju op en sm ob be af pl rf rp rs ra rb rl) (wC ad cI cZ tg (upd fn (8 * p + s) (bI false)) ki nu fi se ju op en sm ob be af pl rf rp rs ra rb rl) (wO o cJ g) 223 rfl (c_mark p s false hp hs) gL_law_X4_mark rfl (by decide +kernel) rfl ⟨(Nat.le_of_ble_eq_true rfl), (Nat.le_of_ble_eq_true rfl)⟩ rfl (Nat.le_of_ble_eq_true rfl) rfl rfl rfl dL_law_220 hcs rfl rfl ?_
      refine v_w (w' := wM bd cI cZ le la kd fs sc mi bh sm oo ie ob mp rf rp rs mt mc no lf he pi ot bf ar md ++ (wC ad cI cZ tg (upd fn (8 * p + s) (bI false)) ki nu fi se ju op en sm ob be af pl rf rp rs ra rb rl ++ wO o cJ g)) rfl ?_
      refine v_st (st' := [.int (bI true)]) rfl ?_
      refine v_aload_n 224 rfl dL_law_223 rfl rfl ?_
      refine v_aload_n 225 rfl dL_law_224 rfl rfl ?_
      refine v_iload 227 rfl dL_law_225 rfl ?_
      refine v_iconst (v := nI 1) 228 rfl dL_law_227 (by decide) ?_
      refine v_iaddN (a := 5 * j) (b := 1) 229 rfl dL_law_228 ?_
      refine v_sld (i := 5 * j + 1) (v := nI p) 230 rfl dL_law_229 (by omega) (by omega) ep ?_
      refine v_aload_n 231 rfl dL_law_230 rfl rfl ?_
      refine v_iload 233 rfl dL_law_231 rfl ?_
      refine v_iconst (v := nI 2) 234 rfl dL_law_233 (by decide) ?_
      refine v_iaddN (a := 5 * j) (b := 2) 235 rfl dL_law_234 ?_
      refine v_sld (i := 5 * j + 2) (v := nI s) 236 rfl dL_law_235 (by omega) (by omega) es ?_
      refine v_aload_n 237 rfl dL_law_236 rfl rfl ?_
      refine v_iload 239 rfl dL_law_237 rfl ?_
      refine v_iconst (v := nI 3) 240 rfl dL_law_239 (by decide) ?_
      refine v_iaddN (a := 5 * j) (b := 3) 241 rfl dL_law_240 ?_
      refine v_sld (i := 5 * j + 3) (v := xs (5 * j + 3)) 242 rfl dL_law_241 (by omega) (by omega) rfl ?_
      refine v_if_eq 249 245 rfl dL_law_242 (by decide) (fun _ => ?_) (fun q => absurd hz q)
      refine v_iconst (v := bI false) 250 rfl dL_law_249 (by decide) ?_
      refine v_callV (n := 3) (q0 := 0) (ci := 5) (C := RX5) (As := [.int (nI p), .int (nI s), .int (bI false)]) ([]) (wM bd cI cZ le la kd fs sc mi bh sm oo ie ob mp rf rp rs mt mc no lf he pi ot bf ar md) (wM bd cI cZ le (upd la (5 * p + s) (bI false)) kd fs sc mi bh sm oo ie ob mp rf rp rs (nI 0) mc no lf he pi ot bf ar md) (wC ad cI cZ tg (upd fn (8 * p + s) (bI false)) ki nu fi se ju op en sm ob be af pl rf rp rs ra rb rl ++ wO o cJ g) 253 rfl (m_mark p s false hp hs) gL_law_X5_mark rfl (by decide +kernel) rfl ⟨(Nat.le_of_ble_eq_true rfl), (Nat.le_of_ble_eq_true rfl)⟩ rfl (Nat.le_of_ble_eq_true rfl) rfl rfl rfl dL_law_250 hcs rfl rfl ?_
      refine v_w (w' := wM bd cI cZ le (upd la (5 * p + s) (bI false)) kd fs sc mi bh sm oo ie ob mp rf rp rs (nI 0) mc no lf he pi ot bf ar md ++ (wC ad cI cZ tg (upd fn (8 * p + s) (bI false)) ki nu fi se ju op en sm ob be af pl rf rp rs ra rb rl ++ wO o cJ g)) rfl ?_
      refine v_st (st' := [.int (bI true), .int (bI true)]) rfl ?_
      refine v_icmp_eq 665 256 rfl dL_law_253 (by decide) (fun _ => ?_) (fun q => absurd rfl q)
      refine v_widen (Nat.le_succ _) (Nat.le_add_right _ 6) ?_
      exact T tg (upd fn (8 * p + s) (bI false)) ki nu fi se ju op en sm ob be af pl rf rp rs ra rb rl le (upd la (5 * p + s) (bI false)) kd fs sc mi bh oo ie mp (nI 0) mc no lf he pi ot bf ar md g ⟨⟨tn, _, htb.mark hp hs⟩, hPR, hBe, hCh, hLf, hno⟩
    · have hv := (Bool.not_eq_true _).mp hv
      refine v_aload_n 194 rfl dL_law_193 rfl rfl ?_
      refine v_aload_n 195 rfl dL_law_194 rfl rfl ?_
      refine v_iload 197 rfl dL_law_195 rfl ?_
      refine v_iconst (v := nI 1) 198 rfl dL_law_197 (by decide) ?_
      refine v_iaddN (a := 5 * j) (b := 1) 199 rfl dL_law_198 ?_
      refine v_sld (i := 5 * j + 1) (v := xs (5 * j + 1)) 200 rfl dL_law_199 (by omega) (by omega) rfl ?_
      refine v_aload_n 201 rfl dL_law_200 rfl rfl ?_
      refine v_iload 203 rfl dL_law_201 rfl ?_
      refine v_iconst (v := nI 2) 204 rfl dL_law_203 (by decide) ?_
      refine v_iaddN (a := 5 * j) (b := 2) 205 rfl dL_law_204 ?_
      refine v_sld (i := 5 * j + 2) (v := xs (5 * j + 2)) 206 rfl dL_law_205 (by omega) (by omega) rfl ?_
      refine v_aload_n 207 rfl dL_law_206 rfl rfl ?_
      refine v_iload 209 rfl dL_law_207 rfl ?_
      refine v_iconst (v := nI 3) 210 rfl dL_law_209 (by decide) ?_
      refine v_iaddN (a := 5 * j) (b := 3) 211 rfl dL_law_210 ?_
      refine v_sld (i := 5 * j + 3) (v := xs (5 * j + 3)) 212 rfl dL_law_211 (by omega) (by omega) rfl ?_
      refine v_if_eq 219 215 rfl dL_law_212 (by decide) (fun _ => ?_) (fun q => absurd hz q)
      refine v_iconst (v := bI false) 220 rfl dL_law_219 (by decide) ?_
      refine v_callV (n := 3) (q0 := 0) (ci := 4) (C := RX4) (As := [.int (xs (5 * j + 1)), .int (xs (5 * j + 2)), .int (bI false)]) (wM bd cI cZ le la kd fs sc mi bh sm oo ie ob mp rf rp rs mt mc no lf he pi ot bf ar md) (wC ad cI cZ tg fn ki nu fi se ju op en sm ob be af pl rf rp rs ra rb rl) (wC ad cI cZ tg fn ki nu fi se ju op en sm ob be af pl rf rp rs ra rb rl) (wO o cJ g) 223 rfl (c_markNo _ _ false hv) gL_law_X4_mark rfl (by decide +kernel) rfl ⟨(Nat.le_of_ble_eq_true rfl), (Nat.le_of_ble_eq_true rfl)⟩ rfl (Nat.le_of_ble_eq_true rfl) rfl rfl rfl dL_law_220 hcs rfl rfl ?_
      refine v_w (w' := wM bd cI cZ le la kd fs sc mi bh sm oo ie ob mp rf rp rs mt mc no lf he pi ot bf ar md ++ (wC ad cI cZ tg fn ki nu fi se ju op en sm ob be af pl rf rp rs ra rb rl ++ wO o cJ g)) rfl ?_
      refine v_st (st' := [.int (bI false)]) rfl ?_
      refine v_aload_n 224 rfl dL_law_223 rfl rfl ?_
      refine v_aload_n 225 rfl dL_law_224 rfl rfl ?_
      refine v_iload 227 rfl dL_law_225 rfl ?_
      refine v_iconst (v := nI 1) 228 rfl dL_law_227 (by decide) ?_
      refine v_iaddN (a := 5 * j) (b := 1) 229 rfl dL_law_228 ?_
      refine v_sld (i := 5 * j + 1) (v := xs (5 * j + 1)) 230 rfl dL_law_229 (by omega) (by omega) rfl ?_
      refine v_aload_n 231 rfl dL_law_230 rfl rfl ?_
      refine v_iload 233 rfl dL_law_231 rfl ?_
      refine v_iconst (v := nI 2) 234 rfl dL_law_233 (by decide) ?_
      refine v_iaddN (a := 5 * j) (b := 2) 235 rfl dL_law_234 ?_
      refine v_sld (i := 5 * j + 2) (v := xs (5 * j + 2)) 236 rfl dL_law_235 (by omega) (by omega) rfl ?_
      refine v_aload_n 237 rfl dL_law_236 rfl rfl ?_
      refine v_iload 239 rfl dL_law_237 rfl ?_
      refine v_iconst (v := nI 3) 240 rfl dL_law_239 (by decide) ?_
      refine v_iaddN (a := 5 * j) (b := 3) 241 rfl dL_law_240 ?_
      refine v_sld (i := 5 * j + 3) (v := xs (5 * j + 3)) 242 rfl dL_law_241 (by omega) (by omega) rfl ?_
      refine v_if_eq 249 245 rfl dL_law_242 (by decide) (fun _ => ?_) (fun q => absurd hz q)
      refine v_iconst (v := bI false) 250 rfl dL_law_249 (by decide) ?_
      refine v_callV (n := 3) (q0 := 0) (ci := 5) (C := RX5) (As := [.int (xs (5 * j + 1)), .int (xs (5 * j + 2)), .int (bI false)]) ([]) (wM bd cI cZ le la kd fs sc mi bh sm oo ie ob mp rf rp rs mt mc no lf he pi ot bf ar md) (wM bd cI cZ le la kd fs sc mi bh sm oo ie ob mp rf rp rs (nI 0) mc no lf he pi ot bf ar md) (wC ad cI cZ tg fn ki nu fi se ju op en sm ob be af pl rf rp rs ra rb rl ++ wO o cJ g) 253 rfl (m_markNo _ _ false hv) gL_law_X5_mark rfl (by decide +kernel) rfl ⟨(Nat.le_of_ble_eq_true rfl), (Nat.le_of_ble_eq_true rfl)⟩ rfl (Nat.le_of_ble_eq_true rfl) rfl rfl rfl dL_law_250 hcs rfl rfl ?_
      refine v_w (w' := wM bd cI cZ le la kd fs sc mi bh sm oo ie ob mp rf rp rs (nI 0) mc no lf he pi ot bf ar md ++ (wC ad cI cZ tg fn ki nu fi se ju op en sm ob be af pl rf rp rs ra rb rl ++ wO o cJ g)) rfl ?_
      refine v_st (st' := [.int (bI false), .int (bI false)]) rfl ?_
      refine v_icmp_eq 665 256 rfl dL_law_253 (by decide) (fun _ => ?_) (fun q => absurd rfl q)
      refine v_widen (Nat.le_succ _) (Nat.le_add_right _ 6) ?_
      exact T tg fn ki nu fi se ju op en sm ob be af pl rf rp rs ra rb rl le la kd fs sc mi bh oo ie mp (nI 0) mc no lf he pi ot bf ar md g ⟨⟨tn, fb, htb⟩, hPR, hBe, hCh, hLf, hno⟩
  · skip
    by_cases hv : (bel (xs (5 * j + 1)) (nI 3) && bel (xs (5 * j + 2)) (nI 5)) = true
    · simp only [Bool.and_eq_true] at hv
      obtain ⟨p, hp, ep⟩ := bel_t (by decide) hv.1
      obtain ⟨s, hs, es⟩ := bel_t (by decide) hv.2
      refine v_aload_n 194 rfl dL_law_193 rfl rfl ?_
      refine v_aload_n 195 rfl dL_law_194 rfl rfl ?_
      refine v_iload 197 rfl dL_law_195 rfl ?_
      refine v_iconst (v := nI 1) 198 rfl dL_law_197 (by decide) ?_
      refine v_iaddN (a := 5 * j) (b := 1) 199 rfl dL_law_198 ?_
      refine v_sld (i := 5 * j + 1) (v := nI p) 200 rfl dL_law_199 (by omega) (by omega) ep ?_
      refine v_aload_n 201 rfl dL_law_200 rfl rfl ?_
      refine v_iload 203 rfl dL_law_201 rfl ?_
      refine v_iconst (v := nI 2) 204 rfl dL_law_203 (by decide) ?_
      refine v_iaddN (a := 5 * j) (b := 2) 205 rfl dL_law_204 ?_
      refine v_sld (i := 5 * j + 2) (v := nI s) 206 rfl dL_law_205 (by omega) (by omega) es ?_
      refine v_aload_n 207 rfl dL_law_206 rfl rfl ?_
      refine v_iload 209 rfl dL_law_207 rfl ?_
      refine v_iconst (v := nI 3) 210 rfl dL_law_209 (by decide) ?_
      refine v_iaddN (a := 5 * j) (b := 3) 211 rfl dL_law_210 ?_
      refine v_sld (i := 5 * j + 3) (v := xs (5 * j + 3)) 212 rfl dL_law_211 (by omega) (by omega) rfl ?_
      refine v_if_eq 219 215 rfl dL_law_212 (by decide) (fun q => absurd q hz) (fun _ => ?_)
      refine v_iconst (v := bI true) 216 rfl dL_law_215 (by decide) ?_
      refine v_goto 220 dL_law_216 (by decide) ?_
      refine v_callV (n := 3) (q0 := 0) (ci := 4) (C := RX4) (As := [.int (nI p), .int (nI s), .int (bI true)]) (wM bd cI cZ le la kd fs sc mi bh sm oo ie ob mp rf rp rs mt mc no lf he pi ot bf ar md) (wC ad cI cZ tg fn ki nu fi se ju op en sm ob be af pl rf rp rs ra rb rl) (wC ad cI cZ tg (upd fn (8 * p + s) (bI true)) ki nu fi se ju op en sm ob be af pl rf rp rs ra rb rl) (wO o cJ g) 223 rfl (c_mark p s true hp hs) gL_law_X4_mark rfl (by decide +kernel) rfl ⟨(Nat.le_of_ble_eq_true rfl), (Nat.le_of_ble_eq_true rfl)⟩ rfl (Nat.le_of_ble_eq_true rfl) rfl rfl rfl dL_law_220 hcs rfl rfl ?_
      refine v_w (w' := wM bd cI cZ le la kd fs sc mi bh sm oo ie ob mp rf rp rs mt mc no lf he pi ot bf ar md ++ (wC ad cI cZ tg (upd fn (8 * p + s) (bI true)) ki nu fi se ju op en sm ob be af pl rf rp rs ra rb rl ++ wO o cJ g)) rfl ?_
      refine v_st (st' := [.int (bI true)]) rfl ?_
      refine v_aload_n 224 rfl dL_law_223 rfl rfl ?_
      refine v_aload_n 225 rfl dL_law_224 rfl rfl ?_
      refine v_iload 227 rfl dL_law_225 rfl ?_
      refine v_iconst (v := nI 1) 228 rfl dL_law_227 (by decide) ?_
      refine v_iaddN (a := 5 * j) (b := 1) 229 rfl dL_law_228 ?_
      refine v_sld (i := 5 * j + 1) (v := nI p) 230 rfl dL_law_229 (by omega) (by omega) ep ?_
      refine v_aload_n 231 rfl dL_law_230 rfl rfl ?_
      refine v_iload 233 rfl dL_law_231 rfl ?_
      refine v_iconst (v := nI 2) 234 rfl dL_law_233 (by decide) ?_
      refine v_iaddN (a := 5 * j) (b := 2) 235 rfl dL_law_234 ?_
      refine v_sld (i := 5 * j + 2) (v := nI s) 236 rfl dL_law_235 (by omega) (by omega) es ?_
      refine v_aload_n 237 rfl dL_law_236 rfl rfl ?_
      refine v_iload 239 rfl dL_law_237 rfl ?_
      refine v_iconst (v := nI 3) 240 rfl dL_law_239 (by decide) ?_
      refine v_iaddN (a := 5 * j) (b := 3) 241 rfl dL_law_240 ?_
      refine v_sld (i := 5 * j + 3) (v := xs (5 * j + 3)) 242 rfl dL_law_241 (by omega) (by omega) rfl ?_
      refine v_if_eq 249 245 rfl dL_law_242 (by decide) (fun q => absurd q hz) (fun _ => ?_)
      refine v_iconst (v := bI true) 246 rfl dL_law_245 (by decide) ?_
      refine v_goto 250 dL_law_246 (by decide) ?_
      refine v_callV (n := 3) (q0 := 0) (ci := 5) (C := RX5) (As := [.int (nI p), .int (nI s), .int (bI true)]) ([]) (wM bd cI cZ le la kd fs sc mi bh sm oo ie ob mp rf rp rs mt mc no lf he pi ot bf ar md) (wM bd cI cZ le (upd la (5 * p + s) (bI true)) kd fs sc mi bh sm oo ie ob mp rf rp rs (nI 0) mc no lf he pi ot bf ar md) (wC ad cI cZ tg (upd fn (8 * p + s) (bI true)) ki nu fi se ju op en sm ob be af pl rf rp rs ra rb rl ++ wO o cJ g) 253 rfl (m_mark p s true hp hs) gL_law_X5_mark rfl (by decide +kernel) rfl ⟨(Nat.le_of_ble_eq_true rfl), (Nat.le_of_ble_eq_true rfl)⟩ rfl (Nat.le_of_ble_eq_true rfl) rfl rfl rfl dL_law_250 hcs rfl rfl ?_
      refine v_w (w' := wM bd cI cZ le (upd la (5 * p + s) (bI true)) kd fs sc mi bh sm oo ie ob mp rf rp rs (nI 0) mc no lf he pi ot bf ar md ++ (wC ad cI cZ tg (upd fn (8 * p + s) (bI true)) ki nu fi se ju op en sm ob be af pl rf rp rs ra rb rl ++ wO o cJ g)) rfl ?_
      refine v_st (st' := [.int (bI true), .int (bI true)]) rfl ?_
      refine v_icmp_eq 665 256 rfl dL_law_253 (by decide) (fun _ => ?_) (fun q => absurd rfl q)
      refine v_widen (Nat.le_succ _) (Nat.le_add_right _ 6) ?_
      exact T tg (upd fn (8 * p + s) (bI true)) ki nu fi se ju op en sm ob be af pl rf rp rs ra rb rl le (upd la (5 * p + s) (bI true)) kd fs sc mi bh oo ie mp (nI 0) mc no lf he pi ot bf ar md g ⟨⟨tn, _, htb.mark hp hs⟩, hPR, hBe, hCh, hLf, hno⟩
    · have hv := (Bool.not_eq_true _).mp hv
      refine v_aload_n 194 rfl dL_law_193 rfl rfl ?_
      refine v_aload_n 195 rfl dL_law_194 rfl rfl ?_
      refine v_iload 197 rfl dL_law_195 rfl ?_
      refine v_iconst (v := nI 1) 198 rfl dL_law_197 (by decide) ?_
      refine v_iaddN (a := 5 * j) (b := 1) 199 rfl dL_law_198 ?_
      refine v_sld (i := 5 * j + 1) (v := xs (5 * j + 1)) 200 rfl dL_law_199 (by omega) (by omega) rfl ?_
      refine v_aload_n 201 rfl dL_law_200 rfl rfl ?_
      refine v_iload 203 rfl dL_law_201 rfl ?_
      refine v_iconst (v := nI 2) 204 rfl dL_law_203 (by decide) ?_
      refine v_iaddN (a := 5 * j) (b := 2) 205 rfl dL_law_204 ?_
      refine v_sld (i := 5 * j + 2) (v := xs (5 * j + 2)) 206 rfl dL_law_205 (by omega) (by omega) rfl ?_
      refine v_aload_n 207 rfl dL_law_206 rfl rfl ?_
      refine v_iload 209 rfl dL_law_207 rfl ?_
      refine v_iconst (v := nI 3) 210 rfl dL_law_209 (by decide) ?_
      refine v_iaddN (a := 5 * j) (b := 3) 211 rfl dL_law_210 ?_
      refine v_sld (i := 5 * j + 3) (v := xs (5 * j + 3)) 212 rfl dL_law_211 (by omega) (by omega) rfl ?_
      refine v_if_eq 219 215 rfl dL_law_212 (by decide) (fun q => absurd q hz) (fun _ => ?_)
      refine v_iconst (v := bI true) 216 rfl dL_law_215 (by decide) ?_
      refine v_goto 220 dL_law_216 (by decide) ?_
      refine v_callV (n := 3) (q0 := 0) (ci := 4) (C := RX4) (As := [.int (xs (5 * j + 1)), .int (xs (5 * j + 2)), .int (bI true)]) (wM bd cI cZ le la kd fs sc mi bh sm oo ie ob mp rf rp rs mt mc no lf he pi ot bf ar md) (wC ad cI cZ tg fn ki nu fi se ju op en sm ob be af pl rf rp rs ra rb rl) (wC ad cI cZ tg fn ki nu fi se ju op en sm ob be af pl rf rp rs ra rb rl) (wO o cJ g) 223 rfl (c_markNo _ _ true hv) gL_law_X4_mark rfl (by decide +kernel) rfl ⟨(Nat.le_of_ble_eq_true rfl), (Nat.le_of_ble_eq_true rfl)⟩ rfl (Nat.le_of_ble_eq_true rfl) rfl rfl rfl dL_law_220 hcs rfl rfl ?_
      refine v_w (w' := wM bd cI cZ le la kd fs sc mi bh sm oo ie ob mp rf rp rs mt mc no lf he pi ot bf ar md ++ (wC ad cI cZ tg fn ki nu fi se ju op en sm ob be af pl rf rp rs ra rb rl ++ wO o cJ g)) rfl ?_
      refine v_st (st' := [.int (bI false)]) rfl ?_
      refine v_aload_n 224 rfl dL_law_223 rfl rfl ?_
      refine v_aload_n 225 rfl dL_law_224 rfl rfl ?_
      refine v_iload 227 rfl dL_law_225 rfl ?_
      refine v_iconst (v := nI 1) 228 rfl dL_law_227 (by decide) ?_
      refine v_iaddN (a := 5 * j) (b := 1) 229 rfl dL_law_228 ?_
      refine v_sld (i := 5 * j + 1) (v := xs (5 * j + 1)) 230 rfl dL_law_229 (by omega) (by omega) rfl ?_
      refine v_aload_n 231 rfl dL_law_230 rfl rfl ?_
      refine v_iload 233 rfl dL_law_231 rfl ?_
      refine v_iconst (v := nI 2) 234 rfl dL_law_233 (by decide) ?_
      refine v_iaddN (a := 5 * j) (b := 2) 235 rfl dL_law_234 ?_
      refine v_sld (i := 5 * j + 2) (v := xs (5 * j + 2)) 236 rfl dL_law_235 (by omega) (by omega) rfl ?_
      refine v_aload_n 237 rfl dL_law_236 rfl rfl ?_
      refine v_iload 239 rfl dL_law_237 rfl ?_
      refine v_iconst (v := nI 3) 240 rfl dL_law_239 (by decide) ?_
      refine v_iaddN (a := 5 * j) (b := 3) 241 rfl dL_law_240 ?_
      refine v_sld (i := 5 * j + 3) (v := xs (5 * j + 3)) 242 rfl dL_law_241 (by omega) (by omega) rfl ?_
      refine v_if_eq 249 245 rfl dL_law_242 (by decide) (fun q => absurd q hz) (fun _ => ?_)
      refine v_iconst (v := bI true) 246 rfl dL_law_245 (by decide) ?_
      refine v_goto 250 dL_law_246 (by decide) ?_
      refine v_callV (n := 3) (q0 := 0) (ci := 5) (C := RX5) (As := [.int (xs (5 * j + 1)), .int (xs (5 * j + 2)), .int (bI true)]) ([]) (wM bd cI cZ le la kd fs sc mi bh sm oo ie ob mp rf rp rs mt mc no lf he pi ot bf ar md) (wM bd cI cZ le la kd fs sc mi bh sm oo ie ob mp rf rp rs (nI 0) mc no lf he pi ot bf ar md) (wC ad cI cZ tg fn ki nu fi se ju op en sm ob be af pl rf rp rs ra rb rl ++ wO o cJ g) 253 rfl (m_markNo _ _ true hv) gL_law_X5_mark rfl (by decide +kernel) rfl ⟨(Nat.le_of_ble_eq_true rfl), (Nat.le_of_ble_eq_true rfl)⟩ rfl (Nat.le_of_ble_eq_true rfl) rfl rfl rfl dL_law_250 hcs rfl rfl ?_
      refine v_w (w' := wM bd cI cZ le la kd fs sc mi bh sm oo ie ob mp rf rp rs (nI 0) mc no lf he pi ot bf ar md ++ (wC ad cI cZ tg fn ki nu fi se ju op en sm ob be af pl rf rp rs ra rb rl ++ wO o cJ g)) rfl ?_
      refine v_st (st' := [.int (bI false), .int (bI false)]) rfl ?_
      refine v_icmp_eq 665 256 rfl dL_law_253 (by decide) (fun _ => ?_) (fun q => absurd rfl q)
      refine v_widen (Nat.le_succ _) (Nat.le_add_right _ 6) ?_
      exact T tg fn ki nu fi se ju op en sm ob be af pl rf rp rs ra rb rl le la kd fs sc mi bh oo ie mp (nI 0) mc no lf he pi ot bf ar md g ⟨⟨tn, fb, htb⟩, hPR, hBe, hCh, hLf, hno⟩
set_option maxRecDepth 100000 in
set_option maxHeartbeats 4000000 in
theorem k_make {D : va_G} {cI cZ cJ : ClassId} {l : Launch} {b L : Nat} {xs : Nat → Int32} {sa : Nat → Nat} {nm : String} {ad bd : Nat → Nat} {o : Nat} (hlT : l.stackTraces = false) (j : Nat) (hj : 5 * j + 5 ≤ L) (hL : L ≤ 2560) (T : LHd (xLw D cI cZ cJ l b L xs sa) (kLw nm) (33 + j + 1) (1375 + 6 * j + 6) 665 ad bd cI cZ cJ o (lvj j b (ad 0) (bd 0) o)) : LHd (xLw D cI cZ cJ l b L xs sa) (kLw nm) (33 + j) (1375 + 6 * j) 258 ad bd cI cZ cJ o (lvj j b (ad 0) (bd 0) o) := by
  intro tg fn ki nu fi se ju op en sm ob be af pl rf rp rs ra rb rl le la kd fs sc mi bh oo ie mp mt mc no lf he pi ot bf ar md g hR
  obtain ⟨⟨tn, fb, htb⟩, hPR, hBe, hCh, hLf, hno⟩ := hR
  have hcs : 33 + j ≤ room_1.cells ∧ 1375 + 6 * j ≤ room_1.slots := ⟨by show 33 + j ≤ 1060; omega, by show 1375 + 6 * j ≤ 9585; omega⟩
  obtain ⟨hs40, ho6, hen, hen1⟩ := hPR.b
  by_cases hc : (bel (xs (5 * j + 1)) (nI 4) && bel (xs (5 * j + 2)) (nI 3)) = true
  · skip
    simp only [Bool.and_eq_true] at hc
    obtain ⟨v, hv, ev⟩ := bel_t (by decide) hc.1
    obtain ⟨x, hx, ex⟩ := bel_t (by decide) hc.2
    rcases Nat.lt_or_ge sm 40 with hs | hs
    · skip
      refine v_aload_n 259 rfl dL_law_258 rfl rfl ?_
      refine v_aload_n 260 rfl dL_law_259 rfl rfl ?_
      refine v_iload 262 rfl dL_law_260 rfl ?_
      refine v_iconst (v := nI 1) 263 rfl dL_law_262 (by decide) ?_
      refine v_iaddN (a := 5 * j) (b := 1) 264 rfl dL_law_263 ?_
      refine v_sld (i := 5 * j + 1) (v := nI v) 265 rfl dL_law_264 (by omega) (by omega) ev ?_
      refine v_aload_n 266 rfl dL_law_265 rfl rfl ?_
      refine v_iload 268 rfl dL_law_266 rfl ?_
      refine v_iconst (v := nI 2) 269 rfl dL_law_268 (by decide) ?_
      refine v_iaddN (a := 5 * j) (b := 2) 270 rfl dL_law_269 ?_
      refine v_sld (i := 5 * j + 2) (v := nI x) 271 rfl dL_law_270 (by omega) (by omega) ex ?_
      refine v_callV (n := 2) (q0 := 0) (ci := 4) (C := RX4) (As := [.int (nI v), .int (nI x)]) (wM bd cI cZ le la kd fs sc mi bh sm oo ie ob mp rf rp rs mt mc no lf he pi ot bf ar md) (wC ad cI cZ tg fn ki nu fi se ju op en sm ob be af pl rf rp rs ra rb rl) (wC ad cI cZ tg fn (upd ki en (nI 0)) (upd nu en (nI sm)) (upd fi en (nI v)) (upd se en (nI x)) ju op (en + 1) (sm + 1) ob be af pl rf rp rs ra rb rl) (wO o cJ g) 274 rfl (c_make v x hv hx hs (hen1 hs)) gL_law_X4_make rfl (by decide +kernel) rfl ⟨(Nat.le_of_ble_eq_true rfl), (Nat.le_of_ble_eq_true rfl)⟩ rfl (Nat.le_of_ble_eq_true rfl) rfl rfl rfl dL_law_271 hcs rfl rfl ?_
      refine v_w (w' := wM bd cI cZ le la kd fs sc mi bh sm oo ie ob mp rf rp rs mt mc no lf he pi ot bf ar md ++ (wC ad cI cZ tg fn (upd ki en (nI 0)) (upd nu en (nI sm)) (upd fi en (nI v)) (upd se en (nI x)) ju op (en + 1) (sm + 1) ob be af pl rf rp rs ra rb rl ++ wO o cJ g)) rfl ?_
      refine v_st (st' := [.int (nI sm)]) rfl ?_
      refine v_aload_n 275 rfl dL_law_274 rfl rfl ?_
      refine v_aload_n 276 rfl dL_law_275 rfl rfl ?_
      refine v_iload 278 rfl dL_law_276 rfl ?_
      refine v_iconst (v := nI 1) 279 rfl dL_law_278 (by decide) ?_
      refine v_iaddN (a := 5 * j) (b := 1) 280 rfl dL_law_279 ?_
      refine v_sld (i := 5 * j + 1) (v := nI v) 281 rfl dL_law_280 (by omega) (by omega) ev ?_
      refine v_aload_n 282 rfl dL_law_281 rfl rfl ?_
      refine v_iload 284 rfl dL_law_282 rfl ?_
      refine v_iconst (v := nI 2) 285 rfl dL_law_284 (by decide) ?_
      refine v_iaddN (a := 5 * j) (b := 2) 286 rfl dL_law_285 ?_
      refine v_sld (i := 5 * j + 2) (v := nI x) 287 rfl dL_law_286 (by omega) (by omega) ex ?_
      refine v_callV (n := 2) (q0 := 0) (ci := 5) (C := RX5) (As := [.int (nI v), .int (nI x)]) ([]) (wM bd cI cZ le la kd fs sc mi bh sm oo ie ob mp rf rp rs mt mc no lf he pi ot bf ar md) (wM bd cI cZ le la (upd kd sm (nI 0)) (upd fs sm (nI v)) (upd sc sm (nI x)) mi bh (sm + 1) oo ie ob mp rf rp rs (nI 0) mc no lf he pi ot bf ar md) (wC ad cI cZ tg fn (upd ki en (nI 0)) (upd nu en (nI sm)) (upd fi en (nI v)) (upd se en (nI x)) ju op (en + 1) (sm + 1) ob be af pl rf rp rs ra rb rl ++ wO o cJ g) 290 rfl (m_make v x hv hx hs) gL_law_X5_make rfl (by decide +kernel) rfl ⟨(Nat.le_of_ble_eq_true rfl), (Nat.le_of_ble_eq_true rfl)⟩ rfl (Nat.le_of_ble_eq_true rfl) rfl rfl rfl dL_law_287 hcs rfl rfl ?_
      refine v_w (w' := wM bd cI cZ le la (upd kd sm (nI 0)) (upd fs sm (nI v)) (upd sc sm (nI x)) mi bh (sm + 1) oo ie ob mp rf rp rs (nI 0) mc no lf he pi ot bf ar md ++ (wC ad cI cZ tg fn (upd ki en (nI 0)) (upd nu en (nI sm)) (upd fi en (nI v)) (upd se en (nI x)) ju op (en + 1) (sm + 1) ob be af pl rf rp rs ra rb rl ++ wO o cJ g)) rfl ?_
      refine v_st (st' := [.int (nI sm), .int (nI sm)]) rfl ?_
      refine v_icmp_eq 665 293 rfl dL_law_290 (by decide) (fun _ => ?_) (fun q => absurd rfl q)
      refine v_widen (Nat.le_succ _) (Nat.le_add_right _ 6) ?_
      exact T tg fn (upd ki en (nI 0)) (upd nu en (nI sm)) (upd fi en (nI v)) (upd se en (nI x)) ju op (en + 1) (sm + 1) ob be af pl rf rp rs ra rb rl le la (upd kd sm (nI 0)) (upd fs sm (nI v)) (upd sc sm (nI x)) mi bh oo ie mp (nI 0) mc no lf he pi ot bf ar md g ⟨⟨tn, fb, htb⟩, hPR.simple 0 v x (by omega) hv (by omega) (by omega) hs, hBe, hCh, hLf, hno⟩
    · have hs : sm = 40 := by omega
      refine v_aload_n 259 rfl dL_law_258 rfl rfl ?_
      refine v_aload_n 260 rfl dL_law_259 rfl rfl ?_
      refine v_iload 262 rfl dL_law_260 rfl ?_
      refine v_iconst (v := nI 1) 263 rfl dL_law_262 (by decide) ?_
      refine v_iaddN (a := 5 * j) (b := 1) 264 rfl dL_law_263 ?_
      refine v_sld (i := 5 * j + 1) (v := nI v) 265 rfl dL_law_264 (by omega) (by omega) ev ?_
      refine v_aload_n 266 rfl dL_law_265 rfl rfl ?_
      refine v_iload 268 rfl dL_law_266 rfl ?_
      refine v_iconst (v := nI 2) 269 rfl dL_law_268 (by decide) ?_
      refine v_iaddN (a := 5 * j) (b := 2) 270 rfl dL_law_269 ?_
      refine v_sld (i := 5 * j + 2) (v := nI x) 271 rfl dL_law_270 (by omega) (by omega) ex ?_
      refine v_callV (n := 2) (q0 := 0) (ci := 4) (C := RX4) (As := [.int (nI v), .int (nI x)]) (wM bd cI cZ le la kd fs sc mi bh sm oo ie ob mp rf rp rs mt mc no lf he pi ot bf ar md) (wC ad cI cZ tg fn ki nu fi se ju op en sm ob be af pl rf rp rs ra rb rl) (wC ad cI cZ tg fn ki nu fi se ju op en sm ob be af pl rf rp rs ra rb rl) (wO o cJ g) 274 rfl (c_makeF v x hv hx hs) gL_law_X4_make rfl (by decide +kernel) rfl ⟨(Nat.le_of_ble_eq_true rfl), (Nat.le_of_ble_eq_true rfl)⟩ rfl (Nat.le_of_ble_eq_true rfl) rfl rfl rfl dL_law_271 hcs rfl rfl ?_
      refine v_w (w' := wM bd cI cZ le la kd fs sc mi bh sm oo ie ob mp rf rp rs mt mc no lf he pi ot bf ar md ++ (wC ad cI cZ tg fn ki nu fi se ju op en sm ob be af pl rf rp rs ra rb rl ++ wO o cJ g)) rfl ?_
      refine v_st (st' := [.int (-1)]) rfl ?_
      refine v_aload_n 275 rfl dL_law_274 rfl rfl ?_
      refine v_aload_n 276 rfl dL_law_275 rfl rfl ?_
      refine v_iload 278 rfl dL_law_276 rfl ?_
      refine v_iconst (v := nI 1) 279 rfl dL_law_278 (by decide) ?_
      refine v_iaddN (a := 5 * j) (b := 1) 280 rfl dL_law_279 ?_
      refine v_sld (i := 5 * j + 1) (v := nI v) 281 rfl dL_law_280 (by omega) (by omega) ev ?_
      refine v_aload_n 282 rfl dL_law_281 rfl rfl ?_
      refine v_iload 284 rfl dL_law_282 rfl ?_
      refine v_iconst (v := nI 2) 285 rfl dL_law_284 (by decide) ?_
      refine v_iaddN (a := 5 * j) (b := 2) 286 rfl dL_law_285 ?_
      refine v_sld (i := 5 * j + 2) (v := nI x) 287 rfl dL_law_286 (by omega) (by omega) ex ?_
      refine v_callV (n := 2) (q0 := 0) (ci := 5) (C := RX5) (As := [.int (nI v), .int (nI x)]) ([]) (wM bd cI cZ le la kd fs sc mi bh sm oo ie ob mp rf rp rs mt mc no lf he pi ot bf ar md) (wM bd cI cZ le la kd fs sc mi bh sm oo ie ob mp rf rp rs (nI 0) mc no lf he pi ot bf ar md) (wC ad cI cZ tg fn ki nu fi se ju op en sm ob be af pl rf rp rs ra rb rl ++ wO o cJ g) 290 rfl (m_makeF v x hv hx hs) gL_law_X5_make rfl (by decide +kernel) rfl ⟨(Nat.le_of_ble_eq_true rfl), (Nat.le_of_ble_eq_true rfl)⟩ rfl (Nat.le_of_ble_eq_true rfl) rfl rfl rfl dL_law_287 hcs rfl rfl ?_
      refine v_w (w' := wM bd cI cZ le la kd fs sc mi bh sm oo ie ob mp rf rp rs (nI 0) mc no lf he pi ot bf ar md ++ (wC ad cI cZ tg fn ki nu fi se ju op en sm ob be af pl rf rp rs ra rb rl ++ wO o cJ g)) rfl ?_
      refine v_st (st' := [.int (-1), .int (-1)]) rfl ?_
      refine v_icmp_eq 665 293 rfl dL_law_290 (by decide) (fun _ => ?_) (fun q => absurd rfl q)
      refine v_widen (Nat.le_succ _) (Nat.le_add_right _ 6) ?_
      exact T tg fn ki nu fi se ju op en sm ob be af pl rf rp rs ra rb rl le la kd fs sc mi bh oo ie mp (nI 0) mc no lf he pi ot bf ar md g ⟨⟨tn, fb, htb⟩, hPR, hBe, hCh, hLf, hno⟩
  · have hc := (Bool.not_eq_true _).mp hc
    refine v_aload_n 259 rfl dL_law_258 rfl rfl ?_
    refine v_aload_n 260 rfl dL_law_259 rfl rfl ?_
    refine v_iload 262 rfl dL_law_260 rfl ?_
    refine v_iconst (v := nI 1) 263 rfl dL_law_262 (by decide) ?_
    refine v_iaddN (a := 5 * j) (b := 1) 264 rfl dL_law_263 ?_
    refine v_sld (i := 5 * j + 1) (v := xs (5 * j + 1)) 265 rfl dL_law_264 (by omega) (by omega) rfl ?_
    refine v_aload_n 266 rfl dL_law_265 rfl rfl ?_
    refine v_iload 268 rfl dL_law_266 rfl ?_
    refine v_iconst (v := nI 2) 269 rfl dL_law_268 (by decide) ?_
    refine v_iaddN (a := 5 * j) (b := 2) 270 rfl dL_law_269 ?_
    refine v_sld (i := 5 * j + 2) (v := xs (5 * j + 2)) 271 rfl dL_law_270 (by omega) (by omega) rfl ?_
    refine v_callV (n := 2) (q0 := 0) (ci := 4) (C := RX4) (As := [.int (xs (5 * j + 1)), .int (xs (5 * j + 2))]) (wM bd cI cZ le la kd fs sc mi bh sm oo ie ob mp rf rp rs mt mc no lf he pi ot bf ar md) (wC ad cI cZ tg fn ki nu fi se ju op en sm ob be af pl rf rp rs ra rb rl) (wC ad cI cZ tg fn ki nu fi se ju op en sm ob be af pl rf rp rs ra rb rl) (wO o cJ g) 274 rfl (c_makeNo _ _ hc) gL_law_X4_make rfl (by decide +kernel) rfl ⟨(Nat.le_of_ble_eq_true rfl), (Nat.le_of_ble_eq_true rfl)⟩ rfl (Nat.le_of_ble_eq_true rfl) rfl rfl rfl dL_law_271 hcs rfl rfl ?_
    refine v_w (w' := wM bd cI cZ le la kd fs sc mi bh sm oo ie ob mp rf rp rs mt mc no lf he pi ot bf ar md ++ (wC ad cI cZ tg fn ki nu fi se ju op en sm ob be af pl rf rp rs ra rb rl ++ wO o cJ g)) rfl ?_
    refine v_st (st' := [.int (-1)]) rfl ?_
    refine v_aload_n 275 rfl dL_law_274 rfl rfl ?_
    refine v_aload_n 276 rfl dL_law_275 rfl rfl ?_
    refine v_iload 278 rfl dL_law_276 rfl ?_
    refine v_iconst (v := nI 1) 279 rfl dL_law_278 (by decide) ?_
    refine v_iaddN (a := 5 * j) (b := 1) 280 rfl dL_law_279 ?_
    refine v_sld (i := 5 * j + 1) (v := xs (5 * j + 1)) 281 rfl dL_law_280 (by omega) (by omega) rfl ?_
    refine v_aload_n 282 rfl dL_law_281 rfl rfl ?_
    refine v_iload 284 rfl dL_law_282 rfl ?_
    refine v_iconst (v := nI 2) 285 rfl dL_law_284 (by decide) ?_
    refine v_iaddN (a := 5 * j) (b := 2) 286 rfl dL_law_285 ?_
    refine v_sld (i := 5 * j + 2) (v := xs (5 * j + 2)) 287 rfl dL_law_286 (by omega) (by omega) rfl ?_
    refine v_callV (n := 2) (q0 := 0) (ci := 5) (C := RX5) (As := [.int (xs (5 * j + 1)), .int (xs (5 * j + 2))]) ([]) (wM bd cI cZ le la kd fs sc mi bh sm oo ie ob mp rf rp rs mt mc no lf he pi ot bf ar md) (wM bd cI cZ le la kd fs sc mi bh sm oo ie ob mp rf rp rs (nI 0) mc no lf he pi ot bf ar md) (wC ad cI cZ tg fn ki nu fi se ju op en sm ob be af pl rf rp rs ra rb rl ++ wO o cJ g) 290 rfl (m_makeNo _ _ hc) gL_law_X5_make rfl (by decide +kernel) rfl ⟨(Nat.le_of_ble_eq_true rfl), (Nat.le_of_ble_eq_true rfl)⟩ rfl (Nat.le_of_ble_eq_true rfl) rfl rfl rfl dL_law_287 hcs rfl rfl ?_
    refine v_w (w' := wM bd cI cZ le la kd fs sc mi bh sm oo ie ob mp rf rp rs (nI 0) mc no lf he pi ot bf ar md ++ (wC ad cI cZ tg fn ki nu fi se ju op en sm ob be af pl rf rp rs ra rb rl ++ wO o cJ g)) rfl ?_
    refine v_st (st' := [.int (-1), .int (-1)]) rfl ?_
    refine v_icmp_eq 665 293 rfl dL_law_290 (by decide) (fun _ => ?_) (fun q => absurd rfl q)
    refine v_widen (Nat.le_succ _) (Nat.le_add_right _ 6) ?_
    exact T tg fn ki nu fi se ju op en sm ob be af pl rf rp rs ra rb rl le la kd fs sc mi bh oo ie mp (nI 0) mc no lf he pi ot bf ar md g ⟨⟨tn, fb, htb⟩, hPR, hBe, hCh, hLf, hno⟩
set_option maxRecDepth 100000 in
set_option maxHeartbeats 4000000 in
theorem k_call {D : va_G} {cI cZ cJ : ClassId} {l : Launch} {b L : Nat} {xs : Nat → Int32} {sa : Nat → Nat} {nm : String} {ad bd : Nat → Nat} {o : Nat} (hlT : l.stackTraces = false) (j : Nat) (hj : 5 * j + 5 ≤ L) (hL : L ≤ 2560) (T : LHd (xLw D cI cZ cJ l b L xs sa) (kLw nm) (33 + j + 1) (1375 + 6 * j + 6) 665 ad bd cI cZ cJ o (lvj j b (ad 0) (bd 0) o)) : LHd (xLw D cI cZ cJ l b L xs sa) (kLw nm) (33 + j) (1375 + 6 * j) 295 ad bd cI cZ cJ o (lvj j b (ad 0) (bd 0) o) := by
  intro tg fn ki nu fi se ju op en sm ob be af pl rf rp rs ra rb rl le la kd fs sc mi bh oo ie mp mt mc no lf he pi ot bf ar md g hR
  obtain ⟨⟨tn, fb, htb⟩, hPR, hBe, hCh, hLf, hno⟩ := hR
  have hcs : 33 + j ≤ room_1.cells ∧ 1375 + 6 * j ≤ room_1.slots := ⟨by show 33 + j ≤ 1060; omega, by show 1375 + 6 * j ≤ 9585; omega⟩
  obtain ⟨hs40, ho6, hen, hen1⟩ := hPR.b
  by_cases hc : (bel (xs (5 * j + 1)) (nI 4) && bel (xs (5 * j + 2)) (nI 4)) = true
  · skip
    simp only [Bool.and_eq_true] at hc
    obtain ⟨v, hv, ev⟩ := bel_t (by decide) hc.1
    obtain ⟨x, hx, ex⟩ := bel_t (by decide) hc.2
    rcases Nat.lt_or_ge sm 40 with hs | hs
    · skip
      refine v_aload_n 296 rfl dL_law_295 rfl rfl ?_
      refine v_aload_n 297 rfl dL_law_296 rfl rfl ?_
      refine v_iload 299 rfl dL_law_297 rfl ?_
      refine v_iconst (v := nI 1) 300 rfl dL_law_299 (by decide) ?_
      refine v_iaddN (a := 5 * j) (b := 1) 301 rfl dL_law_300 ?_
      refine v_sld (i := 5 * j + 1) (v := nI v) 302 rfl dL_law_301 (by omega) (by omega) ev ?_
      refine v_aload_n 303 rfl dL_law_302 rfl rfl ?_
      refine v_iload 305 rfl dL_law_303 rfl ?_
      refine v_iconst (v := nI 2) 306 rfl dL_law_305 (by decide) ?_
      refine v_iaddN (a := 5 * j) (b := 2) 307 rfl dL_law_306 ?_
      refine v_sld (i := 5 * j + 2) (v := nI x) 308 rfl dL_law_307 (by omega) (by omega) ex ?_
      refine v_callV (n := 2) (q0 := 0) (ci := 4) (C := RX4) (As := [.int (nI v), .int (nI x)]) (wM bd cI cZ le la kd fs sc mi bh sm oo ie ob mp rf rp rs mt mc no lf he pi ot bf ar md) (wC ad cI cZ tg fn ki nu fi se ju op en sm ob be af pl rf rp rs ra rb rl) (wC ad cI cZ tg fn (upd ki en (nI 1)) (upd nu en (nI sm)) (upd fi en (nI v)) (upd se en (nI x)) ju op (en + 1) (sm + 1) ob be af pl rf rp rs ra rb rl) (wO o cJ g) 311 rfl (c_call v x hv hx hs (hen1 hs)) gL_law_X4_call rfl (by decide +kernel) rfl ⟨(Nat.le_of_ble_eq_true rfl), (Nat.le_of_ble_eq_true rfl)⟩ rfl (Nat.le_of_ble_eq_true rfl) rfl rfl rfl dL_law_308 hcs rfl rfl ?_
      refine v_w (w' := wM bd cI cZ le la kd fs sc mi bh sm oo ie ob mp rf rp rs mt mc no lf he pi ot bf ar md ++ (wC ad cI cZ tg fn (upd ki en (nI 1)) (upd nu en (nI sm)) (upd fi en (nI v)) (upd se en (nI x)) ju op (en + 1) (sm + 1) ob be af pl rf rp rs ra rb rl ++ wO o cJ g)) rfl ?_
      refine v_st (st' := [.int (nI sm)]) rfl ?_
      refine v_aload_n 312 rfl dL_law_311 rfl rfl ?_
      refine v_aload_n 313 rfl dL_law_312 rfl rfl ?_
      refine v_iload 315 rfl dL_law_313 rfl ?_
      refine v_iconst (v := nI 1) 316 rfl dL_law_315 (by decide) ?_
      refine v_iaddN (a := 5 * j) (b := 1) 317 rfl dL_law_316 ?_
      refine v_sld (i := 5 * j + 1) (v := nI v) 318 rfl dL_law_317 (by omega) (by omega) ev ?_
      refine v_aload_n 319 rfl dL_law_318 rfl rfl ?_
      refine v_iload 321 rfl dL_law_319 rfl ?_
      refine v_iconst (v := nI 2) 322 rfl dL_law_321 (by decide) ?_
      refine v_iaddN (a := 5 * j) (b := 2) 323 rfl dL_law_322 ?_
      refine v_sld (i := 5 * j + 2) (v := nI x) 324 rfl dL_law_323 (by omega) (by omega) ex ?_
      refine v_callV (n := 2) (q0 := 0) (ci := 5) (C := RX5) (As := [.int (nI v), .int (nI x)]) ([]) (wM bd cI cZ le la kd fs sc mi bh sm oo ie ob mp rf rp rs mt mc no lf he pi ot bf ar md) (wM bd cI cZ le la (upd kd sm (nI 1)) (upd fs sm (nI v)) (upd sc sm (nI x)) mi bh (sm + 1) oo ie ob mp rf rp rs (nI 0) mc no lf he pi ot bf ar md) (wC ad cI cZ tg fn (upd ki en (nI 1)) (upd nu en (nI sm)) (upd fi en (nI v)) (upd se en (nI x)) ju op (en + 1) (sm + 1) ob be af pl rf rp rs ra rb rl ++ wO o cJ g) 327 rfl (m_call v x hv hx hs) gL_law_X5_call rfl (by decide +kernel) rfl ⟨(Nat.le_of_ble_eq_true rfl), (Nat.le_of_ble_eq_true rfl)⟩ rfl (Nat.le_of_ble_eq_true rfl) rfl rfl rfl dL_law_324 hcs rfl rfl ?_
      refine v_w (w' := wM bd cI cZ le la (upd kd sm (nI 1)) (upd fs sm (nI v)) (upd sc sm (nI x)) mi bh (sm + 1) oo ie ob mp rf rp rs (nI 0) mc no lf he pi ot bf ar md ++ (wC ad cI cZ tg fn (upd ki en (nI 1)) (upd nu en (nI sm)) (upd fi en (nI v)) (upd se en (nI x)) ju op (en + 1) (sm + 1) ob be af pl rf rp rs ra rb rl ++ wO o cJ g)) rfl ?_
      refine v_st (st' := [.int (nI sm), .int (nI sm)]) rfl ?_
      refine v_icmp_eq 665 330 rfl dL_law_327 (by decide) (fun _ => ?_) (fun q => absurd rfl q)
      refine v_widen (Nat.le_succ _) (Nat.le_add_right _ 6) ?_
      exact T tg fn (upd ki en (nI 1)) (upd nu en (nI sm)) (upd fi en (nI v)) (upd se en (nI x)) ju op (en + 1) (sm + 1) ob be af pl rf rp rs ra rb rl le la (upd kd sm (nI 1)) (upd fs sm (nI v)) (upd sc sm (nI x)) mi bh oo ie mp (nI 0) mc no lf he pi ot bf ar md g ⟨⟨tn, fb, htb⟩, hPR.simple 1 v x (by omega) hv (by omega) (by omega) hs, hBe, hCh, hLf, hno⟩
    · have hs : sm = 40 := by omega
      refine v_aload_n 296 rfl dL_law_295 rfl rfl ?_
      refine v_aload_n 297 rfl dL_law_296 rfl rfl ?_
      refine v_iload 299 rfl dL_law_297 rfl ?_
      refine v_iconst (v := nI 1) 300 rfl dL_law_299 (by decide) ?_
      refine v_iaddN (a := 5 * j) (b := 1) 301 rfl dL_law_300 ?_
      refine v_sld (i := 5 * j + 1) (v := nI v) 302 rfl dL_law_301 (by omega) (by omega) ev ?_
      refine v_aload_n 303 rfl dL_law_302 rfl rfl ?_
      refine v_iload 305 rfl dL_law_303 rfl ?_
      refine v_iconst (v := nI 2) 306 rfl dL_law_305 (by decide) ?_
      refine v_iaddN (a := 5 * j) (b := 2) 307 rfl dL_law_306 ?_
      refine v_sld (i := 5 * j + 2) (v := nI x) 308 rfl dL_law_307 (by omega) (by omega) ex ?_
      refine v_callV (n := 2) (q0 := 0) (ci := 4) (C := RX4) (As := [.int (nI v), .int (nI x)]) (wM bd cI cZ le la kd fs sc mi bh sm oo ie ob mp rf rp rs mt mc no lf he pi ot bf ar md) (wC ad cI cZ tg fn ki nu fi se ju op en sm ob be af pl rf rp rs ra rb rl) (wC ad cI cZ tg fn ki nu fi se ju op en sm ob be af pl rf rp rs ra rb rl) (wO o cJ g) 311 rfl (c_callF v x hv hx hs) gL_law_X4_call rfl (by decide +kernel) rfl ⟨(Nat.le_of_ble_eq_true rfl), (Nat.le_of_ble_eq_true rfl)⟩ rfl (Nat.le_of_ble_eq_true rfl) rfl rfl rfl dL_law_308 hcs rfl rfl ?_
      refine v_w (w' := wM bd cI cZ le la kd fs sc mi bh sm oo ie ob mp rf rp rs mt mc no lf he pi ot bf ar md ++ (wC ad cI cZ tg fn ki nu fi se ju op en sm ob be af pl rf rp rs ra rb rl ++ wO o cJ g)) rfl ?_
      refine v_st (st' := [.int (-1)]) rfl ?_
      refine v_aload_n 312 rfl dL_law_311 rfl rfl ?_
      refine v_aload_n 313 rfl dL_law_312 rfl rfl ?_
      refine v_iload 315 rfl dL_law_313 rfl ?_
      refine v_iconst (v := nI 1) 316 rfl dL_law_315 (by decide) ?_
      refine v_iaddN (a := 5 * j) (b := 1) 317 rfl dL_law_316 ?_
      refine v_sld (i := 5 * j + 1) (v := nI v) 318 rfl dL_law_317 (by omega) (by omega) ev ?_
      refine v_aload_n 319 rfl dL_law_318 rfl rfl ?_
      refine v_iload 321 rfl dL_law_319 rfl ?_
      refine v_iconst (v := nI 2) 322 rfl dL_law_321 (by decide) ?_
      refine v_iaddN (a := 5 * j) (b := 2) 323 rfl dL_law_322 ?_
      refine v_sld (i := 5 * j + 2) (v := nI x) 324 rfl dL_law_323 (by omega) (by omega) ex ?_
      refine v_callV (n := 2) (q0 := 0) (ci := 5) (C := RX5) (As := [.int (nI v), .int (nI x)]) ([]) (wM bd cI cZ le la kd fs sc mi bh sm oo ie ob mp rf rp rs mt mc no lf he pi ot bf ar md) (wM bd cI cZ le la kd fs sc mi bh sm oo ie ob mp rf rp rs (nI 0) mc no lf he pi ot bf ar md) (wC ad cI cZ tg fn ki nu fi se ju op en sm ob be af pl rf rp rs ra rb rl ++ wO o cJ g) 327 rfl (m_callF v x hv hx hs) gL_law_X5_call rfl (by decide +kernel) rfl ⟨(Nat.le_of_ble_eq_true rfl), (Nat.le_of_ble_eq_true rfl)⟩ rfl (Nat.le_of_ble_eq_true rfl) rfl rfl rfl dL_law_324 hcs rfl rfl ?_
      refine v_w (w' := wM bd cI cZ le la kd fs sc mi bh sm oo ie ob mp rf rp rs (nI 0) mc no lf he pi ot bf ar md ++ (wC ad cI cZ tg fn ki nu fi se ju op en sm ob be af pl rf rp rs ra rb rl ++ wO o cJ g)) rfl ?_
      refine v_st (st' := [.int (-1), .int (-1)]) rfl ?_
      refine v_icmp_eq 665 330 rfl dL_law_327 (by decide) (fun _ => ?_) (fun q => absurd rfl q)
      refine v_widen (Nat.le_succ _) (Nat.le_add_right _ 6) ?_
      exact T tg fn ki nu fi se ju op en sm ob be af pl rf rp rs ra rb rl le la kd fs sc mi bh oo ie mp (nI 0) mc no lf he pi ot bf ar md g ⟨⟨tn, fb, htb⟩, hPR, hBe, hCh, hLf, hno⟩
  · have hc := (Bool.not_eq_true _).mp hc
    refine v_aload_n 296 rfl dL_law_295 rfl rfl ?_
    refine v_aload_n 297 rfl dL_law_296 rfl rfl ?_
    refine v_iload 299 rfl dL_law_297 rfl ?_
    refine v_iconst (v := nI 1) 300 rfl dL_law_299 (by decide) ?_
    refine v_iaddN (a := 5 * j) (b := 1) 301 rfl dL_law_300 ?_
    refine v_sld (i := 5 * j + 1) (v := xs (5 * j + 1)) 302 rfl dL_law_301 (by omega) (by omega) rfl ?_
    refine v_aload_n 303 rfl dL_law_302 rfl rfl ?_
    refine v_iload 305 rfl dL_law_303 rfl ?_
    refine v_iconst (v := nI 2) 306 rfl dL_law_305 (by decide) ?_
    refine v_iaddN (a := 5 * j) (b := 2) 307 rfl dL_law_306 ?_
    refine v_sld (i := 5 * j + 2) (v := xs (5 * j + 2)) 308 rfl dL_law_307 (by omega) (by omega) rfl ?_
    refine v_callV (n := 2) (q0 := 0) (ci := 4) (C := RX4) (As := [.int (xs (5 * j + 1)), .int (xs (5 * j + 2))]) (wM bd cI cZ le la kd fs sc mi bh sm oo ie ob mp rf rp rs mt mc no lf he pi ot bf ar md) (wC ad cI cZ tg fn ki nu fi se ju op en sm ob be af pl rf rp rs ra rb rl) (wC ad cI cZ tg fn ki nu fi se ju op en sm ob be af pl rf rp rs ra rb rl) (wO o cJ g) 311 rfl (c_callNo _ _ hc) gL_law_X4_call rfl (by decide +kernel) rfl ⟨(Nat.le_of_ble_eq_true rfl), (Nat.le_of_ble_eq_true rfl)⟩ rfl (Nat.le_of_ble_eq_true rfl) rfl rfl rfl dL_law_308 hcs rfl rfl ?_
    refine v_w (w' := wM bd cI cZ le la kd fs sc mi bh sm oo ie ob mp rf rp rs mt mc no lf he pi ot bf ar md ++ (wC ad cI cZ tg fn ki nu fi se ju op en sm ob be af pl rf rp rs ra rb rl ++ wO o cJ g)) rfl ?_
    refine v_st (st' := [.int (-1)]) rfl ?_
    refine v_aload_n 312 rfl dL_law_311 rfl rfl ?_
    refine v_aload_n 313 rfl dL_law_312 rfl rfl ?_
    refine v_iload 315 rfl dL_law_313 rfl ?_
    refine v_iconst (v := nI 1) 316 rfl dL_law_315 (by decide) ?_
    refine v_iaddN (a := 5 * j) (b := 1) 317 rfl dL_law_316 ?_
    refine v_sld (i := 5 * j + 1) (v := xs (5 * j + 1)) 318 rfl dL_law_317 (by omega) (by omega) rfl ?_
    refine v_aload_n 319 rfl dL_law_318 rfl rfl ?_
    refine v_iload 321 rfl dL_law_319 rfl ?_
    refine v_iconst (v := nI 2) 322 rfl dL_law_321 (by decide) ?_
    refine v_iaddN (a := 5 * j) (b := 2) 323 rfl dL_law_322 ?_
    refine v_sld (i := 5 * j + 2) (v := xs (5 * j + 2)) 324 rfl dL_law_323 (by omega) (by omega) rfl ?_
    refine v_callV (n := 2) (q0 := 0) (ci := 5) (C := RX5) (As := [.int (xs (5 * j + 1)), .int (xs (5 * j + 2))]) ([]) (wM bd cI cZ le la kd fs sc mi bh sm oo ie ob mp rf rp rs mt mc no lf he pi ot bf ar md) (wM bd cI cZ le la kd fs sc mi bh sm oo ie ob mp rf rp rs (nI 0) mc no lf he pi ot bf ar md) (wC ad cI cZ tg fn ki nu fi se ju op en sm ob be af pl rf rp rs ra rb rl ++ wO o cJ g) 327 rfl (m_callNo _ _ hc) gL_law_X5_call rfl (by decide +kernel) rfl ⟨(Nat.le_of_ble_eq_true rfl), (Nat.le_of_ble_eq_true rfl)⟩ rfl (Nat.le_of_ble_eq_true rfl) rfl rfl rfl dL_law_324 hcs rfl rfl ?_
    refine v_w (w' := wM bd cI cZ le la kd fs sc mi bh sm oo ie ob mp rf rp rs (nI 0) mc no lf he pi ot bf ar md ++ (wC ad cI cZ tg fn ki nu fi se ju op en sm ob be af pl rf rp rs ra rb rl ++ wO o cJ g)) rfl ?_
    refine v_st (st' := [.int (-1), .int (-1)]) rfl ?_
    refine v_icmp_eq 665 330 rfl dL_law_327 (by decide) (fun _ => ?_) (fun q => absurd rfl q)
    refine v_widen (Nat.le_succ _) (Nat.le_add_right _ 6) ?_
    exact T tg fn ki nu fi se ju op en sm ob be af pl rf rp rs ra rb rl le la kd fs sc mi bh oo ie mp (nI 0) mc no lf he pi ot bf ar md g ⟨⟨tn, fb, htb⟩, hPR, hBe, hCh, hLf, hno⟩
set_option maxRecDepth 100000 in
set_option maxHeartbeats 4000000 in
theorem k_move {D : va_G} {cI cZ cJ : ClassId} {l : Launch} {b L : Nat} {xs : Nat → Int32} {sa : Nat → Nat} {nm : String} {ad bd : Nat → Nat} {o : Nat} (hlT : l.stackTraces = false) (j : Nat) (hj : 5 * j + 5 ≤ L) (hL : L ≤ 2560) (T : LHd (xLw D cI cZ cJ l b L xs sa) (kLw nm) (33 + j + 1) (1375 + 6 * j + 6) 665 ad bd cI cZ cJ o (lvj j b (ad 0) (bd 0) o)) : LHd (xLw D cI cZ cJ l b L xs sa) (kLw nm) (33 + j) (1375 + 6 * j) 332 ad bd cI cZ cJ o (lvj j b (ad 0) (bd 0) o) := by
  intro tg fn ki nu fi se ju op en sm ob be af pl rf rp rs ra rb rl le la kd fs sc mi bh oo ie mp mt mc no lf he pi ot bf ar md g hR
  obtain ⟨⟨tn, fb, htb⟩, hPR, hBe, hCh, hLf, hno⟩ := hR
  have hcs : 33 + j ≤ room_1.cells ∧ 1375 + 6 * j ≤ room_1.slots := ⟨by show 33 + j ≤ 1060; omega, by show 1375 + 6 * j ≤ 9585; omega⟩
  obtain ⟨hs40, ho6, hen, hen1⟩ := hPR.b
  by_cases hc : (bel (xs (5 * j + 1)) (nI 4) && bel (xs (5 * j + 2)) (nI 4)) = true
  · skip
    simp only [Bool.and_eq_true] at hc
    obtain ⟨v, hv, ev⟩ := bel_t (by decide) hc.1
    obtain ⟨x, hx, ex⟩ := bel_t (by decide) hc.2
    rcases Nat.lt_or_ge sm 40 with hs | hs
    · skip
      refine v_aload_n 333 rfl dL_law_332 rfl rfl ?_
      refine v_aload_n 334 rfl dL_law_333 rfl rfl ?_
      refine v_iload 336 rfl dL_law_334 rfl ?_
      refine v_iconst (v := nI 1) 337 rfl dL_law_336 (by decide) ?_
      refine v_iaddN (a := 5 * j) (b := 1) 338 rfl dL_law_337 ?_
      refine v_sld (i := 5 * j + 1) (v := nI v) 339 rfl dL_law_338 (by omega) (by omega) ev ?_
      refine v_aload_n 340 rfl dL_law_339 rfl rfl ?_
      refine v_iload 342 rfl dL_law_340 rfl ?_
      refine v_iconst (v := nI 2) 343 rfl dL_law_342 (by decide) ?_
      refine v_iaddN (a := 5 * j) (b := 2) 344 rfl dL_law_343 ?_
      refine v_sld (i := 5 * j + 2) (v := nI x) 345 rfl dL_law_344 (by omega) (by omega) ex ?_
      refine v_callV (n := 2) (q0 := 0) (ci := 4) (C := RX4) (As := [.int (nI v), .int (nI x)]) (wM bd cI cZ le la kd fs sc mi bh sm oo ie ob mp rf rp rs mt mc no lf he pi ot bf ar md) (wC ad cI cZ tg fn ki nu fi se ju op en sm ob be af pl rf rp rs ra rb rl) (wC ad cI cZ tg fn (upd ki en (nI 2)) (upd nu en (nI sm)) (upd fi en (nI v)) (upd se en (nI x)) ju op (en + 1) (sm + 1) ob be af pl rf rp rs ra rb rl) (wO o cJ g) 348 rfl (c_move v x hv hx hs (hen1 hs)) gL_law_X4_move rfl (by decide +kernel) rfl ⟨(Nat.le_of_ble_eq_true rfl), (Nat.le_of_ble_eq_true rfl)⟩ rfl (Nat.le_of_ble_eq_true rfl) rfl rfl rfl dL_law_345 hcs rfl rfl ?_
      refine v_w (w' := wM bd cI cZ le la kd fs sc mi bh sm oo ie ob mp rf rp rs mt mc no lf he pi ot bf ar md ++ (wC ad cI cZ tg fn (upd ki en (nI 2)) (upd nu en (nI sm)) (upd fi en (nI v)) (upd se en (nI x)) ju op (en + 1) (sm + 1) ob be af pl rf rp rs ra rb rl ++ wO o cJ g)) rfl ?_
      refine v_st (st' := [.int (nI sm)]) rfl ?_
      refine v_aload_n 349 rfl dL_law_348 rfl rfl ?_
      refine v_aload_n 350 rfl dL_law_349 rfl rfl ?_
      refine v_iload 352 rfl dL_law_350 rfl ?_
      refine v_iconst (v := nI 1) 353 rfl dL_law_352 (by decide) ?_
      refine v_iaddN (a := 5 * j) (b := 1) 354 rfl dL_law_353 ?_
      refine v_sld (i := 5 * j + 1) (v := nI v) 355 rfl dL_law_354 (by omega) (by omega) ev ?_
      refine v_aload_n 356 rfl dL_law_355 rfl rfl ?_
      refine v_iload 358 rfl dL_law_356 rfl ?_
      refine v_iconst (v := nI 2) 359 rfl dL_law_358 (by decide) ?_
      refine v_iaddN (a := 5 * j) (b := 2) 360 rfl dL_law_359 ?_
      refine v_sld (i := 5 * j + 2) (v := nI x) 361 rfl dL_law_360 (by omega) (by omega) ex ?_
      refine v_callV (n := 2) (q0 := 0) (ci := 5) (C := RX5) (As := [.int (nI v), .int (nI x)]) ([]) (wM bd cI cZ le la kd fs sc mi bh sm oo ie ob mp rf rp rs mt mc no lf he pi ot bf ar md) (wM bd cI cZ le la (upd kd sm (nI 2)) (upd fs sm (nI v)) (upd sc sm (nI x)) mi bh (sm + 1) oo ie ob mp rf rp rs (nI 0) mc no lf he pi ot bf ar md) (wC ad cI cZ tg fn (upd ki en (nI 2)) (upd nu en (nI sm)) (upd fi en (nI v)) (upd se en (nI x)) ju op (en + 1) (sm + 1) ob be af pl rf rp rs ra rb rl ++ wO o cJ g) 364 rfl (m_move v x hv hx hs) gL_law_X5_move rfl (by decide +kernel) rfl ⟨(Nat.le_of_ble_eq_true rfl), (Nat.le_of_ble_eq_true rfl)⟩ rfl (Nat.le_of_ble_eq_true rfl) rfl rfl rfl dL_law_361 hcs rfl rfl ?_
      refine v_w (w' := wM bd cI cZ le la (upd kd sm (nI 2)) (upd fs sm (nI v)) (upd sc sm (nI x)) mi bh (sm + 1) oo ie ob mp rf rp rs (nI 0) mc no lf he pi ot bf ar md ++ (wC ad cI cZ tg fn (upd ki en (nI 2)) (upd nu en (nI sm)) (upd fi en (nI v)) (upd se en (nI x)) ju op (en + 1) (sm + 1) ob be af pl rf rp rs ra rb rl ++ wO o cJ g)) rfl ?_
      refine v_st (st' := [.int (nI sm), .int (nI sm)]) rfl ?_
      refine v_icmp_eq 665 367 rfl dL_law_364 (by decide) (fun _ => ?_) (fun q => absurd rfl q)
      refine v_widen (Nat.le_succ _) (Nat.le_add_right _ 6) ?_
      exact T tg fn (upd ki en (nI 2)) (upd nu en (nI sm)) (upd fi en (nI v)) (upd se en (nI x)) ju op (en + 1) (sm + 1) ob be af pl rf rp rs ra rb rl le la (upd kd sm (nI 2)) (upd fs sm (nI v)) (upd sc sm (nI x)) mi bh oo ie mp (nI 0) mc no lf he pi ot bf ar md g ⟨⟨tn, fb, htb⟩, hPR.simple 2 v x (by omega) hv (by omega) (by omega) hs, hBe, hCh, hLf, hno⟩
    · have hs : sm = 40 := by omega
      refine v_aload_n 333 rfl dL_law_332 rfl rfl ?_
      refine v_aload_n 334 rfl dL_law_333 rfl rfl ?_
      refine v_iload 336 rfl dL_law_334 rfl ?_
      refine v_iconst (v := nI 1) 337 rfl dL_law_336 (by decide) ?_
      refine v_iaddN (a := 5 * j) (b := 1) 338 rfl dL_law_337 ?_
      refine v_sld (i := 5 * j + 1) (v := nI v) 339 rfl dL_law_338 (by omega) (by omega) ev ?_
      refine v_aload_n 340 rfl dL_law_339 rfl rfl ?_
      refine v_iload 342 rfl dL_law_340 rfl ?_
      refine v_iconst (v := nI 2) 343 rfl dL_law_342 (by decide) ?_
      refine v_iaddN (a := 5 * j) (b := 2) 344 rfl dL_law_343 ?_
      refine v_sld (i := 5 * j + 2) (v := nI x) 345 rfl dL_law_344 (by omega) (by omega) ex ?_
      refine v_callV (n := 2) (q0 := 0) (ci := 4) (C := RX4) (As := [.int (nI v), .int (nI x)]) (wM bd cI cZ le la kd fs sc mi bh sm oo ie ob mp rf rp rs mt mc no lf he pi ot bf ar md) (wC ad cI cZ tg fn ki nu fi se ju op en sm ob be af pl rf rp rs ra rb rl) (wC ad cI cZ tg fn ki nu fi se ju op en sm ob be af pl rf rp rs ra rb rl) (wO o cJ g) 348 rfl (c_moveF v x hv hx hs) gL_law_X4_move rfl (by decide +kernel) rfl ⟨(Nat.le_of_ble_eq_true rfl), (Nat.le_of_ble_eq_true rfl)⟩ rfl (Nat.le_of_ble_eq_true rfl) rfl rfl rfl dL_law_345 hcs rfl rfl ?_
      refine v_w (w' := wM bd cI cZ le la kd fs sc mi bh sm oo ie ob mp rf rp rs mt mc no lf he pi ot bf ar md ++ (wC ad cI cZ tg fn ki nu fi se ju op en sm ob be af pl rf rp rs ra rb rl ++ wO o cJ g)) rfl ?_
      refine v_st (st' := [.int (-1)]) rfl ?_
      refine v_aload_n 349 rfl dL_law_348 rfl rfl ?_
      refine v_aload_n 350 rfl dL_law_349 rfl rfl ?_
      refine v_iload 352 rfl dL_law_350 rfl ?_
      refine v_iconst (v := nI 1) 353 rfl dL_law_352 (by decide) ?_
      refine v_iaddN (a := 5 * j) (b := 1) 354 rfl dL_law_353 ?_
      refine v_sld (i := 5 * j + 1) (v := nI v) 355 rfl dL_law_354 (by omega) (by omega) ev ?_
      refine v_aload_n 356 rfl dL_law_355 rfl rfl ?_
      refine v_iload 358 rfl dL_law_356 rfl ?_
      refine v_iconst (v := nI 2) 359 rfl dL_law_358 (by decide) ?_
      refine v_iaddN (a := 5 * j) (b := 2) 360 rfl dL_law_359 ?_
      refine v_sld (i := 5 * j + 2) (v := nI x) 361 rfl dL_law_360 (by omega) (by omega) ex ?_
      refine v_callV (n := 2) (q0 := 0) (ci := 5) (C := RX5) (As := [.int (nI v), .int (nI x)]) ([]) (wM bd cI cZ le la kd fs sc mi bh sm oo ie ob mp rf rp rs mt mc no lf he pi ot bf ar md) (wM bd cI cZ le la kd fs sc mi bh sm oo ie ob mp rf rp rs (nI 0) mc no lf he pi ot bf ar md) (wC ad cI cZ tg fn ki nu fi se ju op en sm ob be af pl rf rp rs ra rb rl ++ wO o cJ g) 364 rfl (m_moveF v x hv hx hs) gL_law_X5_move rfl (by decide +kernel) rfl ⟨(Nat.le_of_ble_eq_true rfl), (Nat.le_of_ble_eq_true rfl)⟩ rfl (Nat.le_of_ble_eq_true rfl) rfl rfl rfl dL_law_361 hcs rfl rfl ?_
      refine v_w (w' := wM bd cI cZ le la kd fs sc mi bh sm oo ie ob mp rf rp rs (nI 0) mc no lf he pi ot bf ar md ++ (wC ad cI cZ tg fn ki nu fi se ju op en sm ob be af pl rf rp rs ra rb rl ++ wO o cJ g)) rfl ?_
      refine v_st (st' := [.int (-1), .int (-1)]) rfl ?_
      refine v_icmp_eq 665 367 rfl dL_law_364 (by decide) (fun _ => ?_) (fun q => absurd rfl q)
      refine v_widen (Nat.le_succ _) (Nat.le_add_right _ 6) ?_
      exact T tg fn ki nu fi se ju op en sm ob be af pl rf rp rs ra rb rl le la kd fs sc mi bh oo ie mp (nI 0) mc no lf he pi ot bf ar md g ⟨⟨tn, fb, htb⟩, hPR, hBe, hCh, hLf, hno⟩
  · have hc := (Bool.not_eq_true _).mp hc
    refine v_aload_n 333 rfl dL_law_332 rfl rfl ?_
    refine v_aload_n 334 rfl dL_law_333 rfl rfl ?_
    refine v_iload 336 rfl dL_law_334 rfl ?_
    refine v_iconst (v := nI 1) 337 rfl dL_law_336 (by decide) ?_
    refine v_iaddN (a := 5 * j) (b := 1) 338 rfl dL_law_337 ?_
    refine v_sld (i := 5 * j + 1) (v := xs (5 * j + 1)) 339 rfl dL_law_338 (by omega) (by omega) rfl ?_
    refine v_aload_n 340 rfl dL_law_339 rfl rfl ?_
    refine v_iload 342 rfl dL_law_340 rfl ?_
    refine v_iconst (v := nI 2) 343 rfl dL_law_342 (by decide) ?_
    refine v_iaddN (a := 5 * j) (b := 2) 344 rfl dL_law_343 ?_
    refine v_sld (i := 5 * j + 2) (v := xs (5 * j + 2)) 345 rfl dL_law_344 (by omega) (by omega) rfl ?_
    refine v_callV (n := 2) (q0 := 0) (ci := 4) (C := RX4) (As := [.int (xs (5 * j + 1)), .int (xs (5 * j + 2))]) (wM bd cI cZ le la kd fs sc mi bh sm oo ie ob mp rf rp rs mt mc no lf he pi ot bf ar md) (wC ad cI cZ tg fn ki nu fi se ju op en sm ob be af pl rf rp rs ra rb rl) (wC ad cI cZ tg fn ki nu fi se ju op en sm ob be af pl rf rp rs ra rb rl) (wO o cJ g) 348 rfl (c_moveNo _ _ hc) gL_law_X4_move rfl (by decide +kernel) rfl ⟨(Nat.le_of_ble_eq_true rfl), (Nat.le_of_ble_eq_true rfl)⟩ rfl (Nat.le_of_ble_eq_true rfl) rfl rfl rfl dL_law_345 hcs rfl rfl ?_
    refine v_w (w' := wM bd cI cZ le la kd fs sc mi bh sm oo ie ob mp rf rp rs mt mc no lf he pi ot bf ar md ++ (wC ad cI cZ tg fn ki nu fi se ju op en sm ob be af pl rf rp rs ra rb rl ++ wO o cJ g)) rfl ?_
    refine v_st (st' := [.int (-1)]) rfl ?_
    refine v_aload_n 349 rfl dL_law_348 rfl rfl ?_
    refine v_aload_n 350 rfl dL_law_349 rfl rfl ?_
    refine v_iload 352 rfl dL_law_350 rfl ?_
    refine v_iconst (v := nI 1) 353 rfl dL_law_352 (by decide) ?_
    refine v_iaddN (a := 5 * j) (b := 1) 354 rfl dL_law_353 ?_
    refine v_sld (i := 5 * j + 1) (v := xs (5 * j + 1)) 355 rfl dL_law_354 (by omega) (by omega) rfl ?_
    refine v_aload_n 356 rfl dL_law_355 rfl rfl ?_
    refine v_iload 358 rfl dL_law_356 rfl ?_
    refine v_iconst (v := nI 2) 359 rfl dL_law_358 (by decide) ?_
    refine v_iaddN (a := 5 * j) (b := 2) 360 rfl dL_law_359 ?_
    refine v_sld (i := 5 * j + 2) (v := xs (5 * j + 2)) 361 rfl dL_law_360 (by omega) (by omega) rfl ?_
    refine v_callV (n := 2) (q0 := 0) (ci := 5) (C := RX5) (As := [.int (xs (5 * j + 1)), .int (xs (5 * j + 2))]) ([]) (wM bd cI cZ le la kd fs sc mi bh sm oo ie ob mp rf rp rs mt mc no lf he pi ot bf ar md) (wM bd cI cZ le la kd fs sc mi bh sm oo ie ob mp rf rp rs (nI 0) mc no lf he pi ot bf ar md) (wC ad cI cZ tg fn ki nu fi se ju op en sm ob be af pl rf rp rs ra rb rl ++ wO o cJ g) 364 rfl (m_moveNo _ _ hc) gL_law_X5_move rfl (by decide +kernel) rfl ⟨(Nat.le_of_ble_eq_true rfl), (Nat.le_of_ble_eq_true rfl)⟩ rfl (Nat.le_of_ble_eq_true rfl) rfl rfl rfl dL_law_361 hcs rfl rfl ?_
    refine v_w (w' := wM bd cI cZ le la kd fs sc mi bh sm oo ie ob mp rf rp rs (nI 0) mc no lf he pi ot bf ar md ++ (wC ad cI cZ tg fn ki nu fi se ju op en sm ob be af pl rf rp rs ra rb rl ++ wO o cJ g)) rfl ?_
    refine v_st (st' := [.int (-1), .int (-1)]) rfl ?_
    refine v_icmp_eq 665 367 rfl dL_law_364 (by decide) (fun _ => ?_) (fun q => absurd rfl q)
    refine v_widen (Nat.le_succ _) (Nat.le_add_right _ 6) ?_
    exact T tg fn ki nu fi se ju op en sm ob be af pl rf rp rs ra rb rl le la kd fs sc mi bh oo ie mp (nI 0) mc no lf he pi ot bf ar md g ⟨⟨tn, fb, htb⟩, hPR, hBe, hCh, hLf, hno⟩
set_option maxRecDepth 100000 in
set_option maxHeartbeats 4000000 in
theorem k_drop {D : va_G} {cI cZ cJ : ClassId} {l : Launch} {b L : Nat} {xs : Nat → Int32} {sa : Nat → Nat} {nm : String} {ad bd : Nat → Nat} {o : Nat} (hlT : l.stackTraces = false) (j : Nat) (hj : 5 * j + 5 ≤ L) (hL : L ≤ 2560) (T : LHd (xLw D cI cZ cJ l b L xs sa) (kLw nm) (33 + j + 1) (1375 + 6 * j + 6) 665 ad bd cI cZ cJ o (lvj j b (ad 0) (bd 0) o)) : LHd (xLw D cI cZ cJ l b L xs sa) (kLw nm) (33 + j) (1375 + 6 * j) 369 ad bd cI cZ cJ o (lvj j b (ad 0) (bd 0) o) := by
  intro tg fn ki nu fi se ju op en sm ob be af pl rf rp rs ra rb rl le la kd fs sc mi bh oo ie mp mt mc no lf he pi ot bf ar md g hR
  obtain ⟨⟨tn, fb, htb⟩, hPR, hBe, hCh, hLf, hno⟩ := hR
  have hcs : 33 + j ≤ room_1.cells ∧ 1375 + 6 * j ≤ room_1.slots := ⟨by show 33 + j ≤ 1060; omega, by show 1375 + 6 * j ≤ 9585; omega⟩
  obtain ⟨hs40, ho6, hen, hen1⟩ := hPR.b
  by_cases hc : bel (xs (5 * j + 1)) (nI 4) = true
  · skip
    obtain ⟨v, hv, ev⟩ := bel_t (by decide) hc
    rcases Nat.lt_or_ge sm 40 with hs | hs
    · skip
      refine v_aload_n 370 rfl dL_law_369 rfl rfl ?_
      refine v_aload_n 371 rfl dL_law_370 rfl rfl ?_
      refine v_iload 373 rfl dL_law_371 rfl ?_
      refine v_iconst (v := nI 1) 374 rfl dL_law_373 (by decide) ?_
      refine v_iaddN (a := 5 * j) (b := 1) 375 rfl dL_law_374 ?_
      refine v_sld (i := 5 * j + 1) (v := nI v) 376 rfl dL_law_375 (by omega) (by omega) ev ?_
      refine v_callV (n := 1) (q0 := 0) (ci := 4) (C := RX4) (As := [.int (nI v)]) (wM bd cI cZ le la kd fs sc mi bh sm oo ie ob mp rf rp rs mt mc no lf he pi ot bf ar md) (wC ad cI cZ tg fn ki nu fi se ju op en sm ob be af pl rf rp rs ra rb rl) (wC ad cI cZ tg fn (upd ki en (nI 3)) (upd nu en (nI sm)) (upd fi en (nI v)) (upd se en (nI 0)) ju op (en + 1) (sm + 1) ob be af pl rf rp rs ra rb rl) (wO o cJ g) 379 rfl (c_drop v hv hs (hen1 hs)) gL_law_X4_drop rfl (by decide +kernel) rfl ⟨(Nat.le_of_ble_eq_true rfl), (Nat.le_of_ble_eq_true rfl)⟩ rfl (Nat.le_of_ble_eq_true rfl) rfl rfl rfl dL_law_376 hcs rfl rfl ?_
      refine v_w (w' := wM bd cI cZ le la kd fs sc mi bh sm oo ie ob mp rf rp rs mt mc no lf he pi ot bf ar md ++ (wC ad cI cZ tg fn (upd ki en (nI 3)) (upd nu en (nI sm)) (upd fi en (nI v)) (upd se en (nI 0)) ju op (en + 1) (sm + 1) ob be af pl rf rp rs ra rb rl ++ wO o cJ g)) rfl ?_
      refine v_st (st' := [.int (nI sm)]) rfl ?_
      refine v_aload_n 380 rfl dL_law_379 rfl rfl ?_
      refine v_aload_n 381 rfl dL_law_380 rfl rfl ?_
      refine v_iload 383 rfl dL_law_381 rfl ?_
      refine v_iconst (v := nI 1) 384 rfl dL_law_383 (by decide) ?_
      refine v_iaddN (a := 5 * j) (b := 1) 385 rfl dL_law_384 ?_
      refine v_sld (i := 5 * j + 1) (v := nI v) 386 rfl dL_law_385 (by omega) (by omega) ev ?_
      refine v_callV (n := 1) (q0 := 0) (ci := 5) (C := RX5) (As := [.int (nI v)]) ([]) (wM bd cI cZ le la kd fs sc mi bh sm oo ie ob mp rf rp rs mt mc no lf he pi ot bf ar md) (wM bd cI cZ le la (upd kd sm (nI 3)) (upd fs sm (nI v)) (upd sc sm (nI 0)) mi bh (sm + 1) oo ie ob mp rf rp rs (nI 0) mc no lf he pi ot bf ar md) (wC ad cI cZ tg fn (upd ki en (nI 3)) (upd nu en (nI sm)) (upd fi en (nI v)) (upd se en (nI 0)) ju op (en + 1) (sm + 1) ob be af pl rf rp rs ra rb rl ++ wO o cJ g) 389 rfl (m_drop v hv hs) gL_law_X5_drop rfl (by decide +kernel) rfl ⟨(Nat.le_of_ble_eq_true rfl), (Nat.le_of_ble_eq_true rfl)⟩ rfl (Nat.le_of_ble_eq_true rfl) rfl rfl rfl dL_law_386 hcs rfl rfl ?_
      refine v_w (w' := wM bd cI cZ le la (upd kd sm (nI 3)) (upd fs sm (nI v)) (upd sc sm (nI 0)) mi bh (sm + 1) oo ie ob mp rf rp rs (nI 0) mc no lf he pi ot bf ar md ++ (wC ad cI cZ tg fn (upd ki en (nI 3)) (upd nu en (nI sm)) (upd fi en (nI v)) (upd se en (nI 0)) ju op (en + 1) (sm + 1) ob be af pl rf rp rs ra rb rl ++ wO o cJ g)) rfl ?_
      refine v_st (st' := [.int (nI sm), .int (nI sm)]) rfl ?_
      refine v_icmp_eq 665 392 rfl dL_law_389 (by decide) (fun _ => ?_) (fun q => absurd rfl q)
      refine v_widen (Nat.le_succ _) (Nat.le_add_right _ 6) ?_
      exact T tg fn (upd ki en (nI 3)) (upd nu en (nI sm)) (upd fi en (nI v)) (upd se en (nI 0)) ju op (en + 1) (sm + 1) ob be af pl rf rp rs ra rb rl le la (upd kd sm (nI 3)) (upd fs sm (nI v)) (upd sc sm (nI 0)) mi bh oo ie mp (nI 0) mc no lf he pi ot bf ar md g ⟨⟨tn, fb, htb⟩, hPR.simple 3 v 0 (by omega) hv (by omega) (by omega) hs, hBe, hCh, hLf, hno⟩
    · have hs : sm = 40 := by omega
      refine v_aload_n 370 rfl dL_law_369 rfl rfl ?_
      refine v_aload_n 371 rfl dL_law_370 rfl rfl ?_
      refine v_iload 373 rfl dL_law_371 rfl ?_
      refine v_iconst (v := nI 1) 374 rfl dL_law_373 (by decide) ?_
      refine v_iaddN (a := 5 * j) (b := 1) 375 rfl dL_law_374 ?_
      refine v_sld (i := 5 * j + 1) (v := nI v) 376 rfl dL_law_375 (by omega) (by omega) ev ?_
      refine v_callV (n := 1) (q0 := 0) (ci := 4) (C := RX4) (As := [.int (nI v)]) (wM bd cI cZ le la kd fs sc mi bh sm oo ie ob mp rf rp rs mt mc no lf he pi ot bf ar md) (wC ad cI cZ tg fn ki nu fi se ju op en sm ob be af pl rf rp rs ra rb rl) (wC ad cI cZ tg fn ki nu fi se ju op en sm ob be af pl rf rp rs ra rb rl) (wO o cJ g) 379 rfl (c_dropF v hv hs) gL_law_X4_drop rfl (by decide +kernel) rfl ⟨(Nat.le_of_ble_eq_true rfl), (Nat.le_of_ble_eq_true rfl)⟩ rfl (Nat.le_of_ble_eq_true rfl) rfl rfl rfl dL_law_376 hcs rfl rfl ?_
      refine v_w (w' := wM bd cI cZ le la kd fs sc mi bh sm oo ie ob mp rf rp rs mt mc no lf he pi ot bf ar md ++ (wC ad cI cZ tg fn ki nu fi se ju op en sm ob be af pl rf rp rs ra rb rl ++ wO o cJ g)) rfl ?_
      refine v_st (st' := [.int (-1)]) rfl ?_
      refine v_aload_n 380 rfl dL_law_379 rfl rfl ?_
      refine v_aload_n 381 rfl dL_law_380 rfl rfl ?_
      refine v_iload 383 rfl dL_law_381 rfl ?_
      refine v_iconst (v := nI 1) 384 rfl dL_law_383 (by decide) ?_
      refine v_iaddN (a := 5 * j) (b := 1) 385 rfl dL_law_384 ?_
      refine v_sld (i := 5 * j + 1) (v := nI v) 386 rfl dL_law_385 (by omega) (by omega) ev ?_
      refine v_callV (n := 1) (q0 := 0) (ci := 5) (C := RX5) (As := [.int (nI v)]) ([]) (wM bd cI cZ le la kd fs sc mi bh sm oo ie ob mp rf rp rs mt mc no lf he pi ot bf ar md) (wM bd cI cZ le la kd fs sc mi bh sm oo ie ob mp rf rp rs (nI 0) mc no lf he pi ot bf ar md) (wC ad cI cZ tg fn ki nu fi se ju op en sm ob be af pl rf rp rs ra rb rl ++ wO o cJ g) 389 rfl (m_dropF v hv hs) gL_law_X5_drop rfl (by decide +kernel) rfl ⟨(Nat.le_of_ble_eq_true rfl), (Nat.le_of_ble_eq_true rfl)⟩ rfl (Nat.le_of_ble_eq_true rfl) rfl rfl rfl dL_law_386 hcs rfl rfl ?_
      refine v_w (w' := wM bd cI cZ le la kd fs sc mi bh sm oo ie ob mp rf rp rs (nI 0) mc no lf he pi ot bf ar md ++ (wC ad cI cZ tg fn ki nu fi se ju op en sm ob be af pl rf rp rs ra rb rl ++ wO o cJ g)) rfl ?_
      refine v_st (st' := [.int (-1), .int (-1)]) rfl ?_
      refine v_icmp_eq 665 392 rfl dL_law_389 (by decide) (fun _ => ?_) (fun q => absurd rfl q)
      refine v_widen (Nat.le_succ _) (Nat.le_add_right _ 6) ?_
      exact T tg fn ki nu fi se ju op en sm ob be af pl rf rp rs ra rb rl le la kd fs sc mi bh oo ie mp (nI 0) mc no lf he pi ot bf ar md g ⟨⟨tn, fb, htb⟩, hPR, hBe, hCh, hLf, hno⟩
  · have hc := (Bool.not_eq_true _).mp hc
    refine v_aload_n 370 rfl dL_law_369 rfl rfl ?_
    refine v_aload_n 371 rfl dL_law_370 rfl rfl ?_
    refine v_iload 373 rfl dL_law_371 rfl ?_
    refine v_iconst (v := nI 1) 374 rfl dL_law_373 (by decide) ?_
    refine v_iaddN (a := 5 * j) (b := 1) 375 rfl dL_law_374 ?_
    refine v_sld (i := 5 * j + 1) (v := xs (5 * j + 1)) 376 rfl dL_law_375 (by omega) (by omega) rfl ?_
    refine v_callV (n := 1) (q0 := 0) (ci := 4) (C := RX4) (As := [.int (xs (5 * j + 1))]) (wM bd cI cZ le la kd fs sc mi bh sm oo ie ob mp rf rp rs mt mc no lf he pi ot bf ar md) (wC ad cI cZ tg fn ki nu fi se ju op en sm ob be af pl rf rp rs ra rb rl) (wC ad cI cZ tg fn ki nu fi se ju op en sm ob be af pl rf rp rs ra rb rl) (wO o cJ g) 379 rfl (c_dropNo _ hc) gL_law_X4_drop rfl (by decide +kernel) rfl ⟨(Nat.le_of_ble_eq_true rfl), (Nat.le_of_ble_eq_true rfl)⟩ rfl (Nat.le_of_ble_eq_true rfl) rfl rfl rfl dL_law_376 hcs rfl rfl ?_
    refine v_w (w' := wM bd cI cZ le la kd fs sc mi bh sm oo ie ob mp rf rp rs mt mc no lf he pi ot bf ar md ++ (wC ad cI cZ tg fn ki nu fi se ju op en sm ob be af pl rf rp rs ra rb rl ++ wO o cJ g)) rfl ?_
    refine v_st (st' := [.int (-1)]) rfl ?_
    refine v_aload_n 380 rfl dL_law_379 rfl rfl ?_
    refine v_aload_n 381 rfl dL_law_380 rfl rfl ?_
    refine v_iload 383 rfl dL_law_381 rfl ?_
    refine v_iconst (v := nI 1) 384 rfl dL_law_383 (by decide) ?_
    refine v_iaddN (a := 5 * j) (b := 1) 385 rfl dL_law_384 ?_
    refine v_sld (i := 5 * j + 1) (v := xs (5 * j + 1)) 386 rfl dL_law_385 (by omega) (by omega) rfl ?_
    refine v_callV (n := 1) (q0 := 0) (ci := 5) (C := RX5) (As := [.int (xs (5 * j + 1))]) ([]) (wM bd cI cZ le la kd fs sc mi bh sm oo ie ob mp rf rp rs mt mc no lf he pi ot bf ar md) (wM bd cI cZ le la kd fs sc mi bh sm oo ie ob mp rf rp rs (nI 0) mc no lf he pi ot bf ar md) (wC ad cI cZ tg fn ki nu fi se ju op en sm ob be af pl rf rp rs ra rb rl ++ wO o cJ g) 389 rfl (m_dropNo _ hc) gL_law_X5_drop rfl (by decide +kernel) rfl ⟨(Nat.le_of_ble_eq_true rfl), (Nat.le_of_ble_eq_true rfl)⟩ rfl (Nat.le_of_ble_eq_true rfl) rfl rfl rfl dL_law_386 hcs rfl rfl ?_
    refine v_w (w' := wM bd cI cZ le la kd fs sc mi bh sm oo ie ob mp rf rp rs (nI 0) mc no lf he pi ot bf ar md ++ (wC ad cI cZ tg fn ki nu fi se ju op en sm ob be af pl rf rp rs ra rb rl ++ wO o cJ g)) rfl ?_
    refine v_st (st' := [.int (-1), .int (-1)]) rfl ?_
    refine v_icmp_eq 665 392 rfl dL_law_389 (by decide) (fun _ => ?_) (fun q => absurd rfl q)
    refine v_widen (Nat.le_succ _) (Nat.le_add_right _ 6) ?_
    exact T tg fn ki nu fi se ju op en sm ob be af pl rf rp rs ra rb rl le la kd fs sc mi bh oo ie mp (nI 0) mc no lf he pi ot bf ar md g ⟨⟨tn, fb, htb⟩, hPR, hBe, hCh, hLf, hno⟩
set_option maxRecDepth 100000 in
set_option maxHeartbeats 4000000 in
theorem k_choose {D : va_G} {cI cZ cJ : ClassId} {l : Launch} {b L : Nat} {xs : Nat → Int32} {sa : Nat → Nat} {nm : String} {ad bd : Nat → Nat} {o : Nat} (hlT : l.stackTraces = false) (j : Nat) (hj : 5 * j + 5 ≤ L) (hL : L ≤ 2560) (T : LHd (xLw D cI cZ cJ l b L xs sa) (kLw nm) (33 + j + 1) (1375 + 6 * j + 6) 665 ad bd cI cZ cJ o (lvj j b (ad 0) (bd 0) o)) : LHd (xLw D cI cZ cJ l b L xs sa) (kLw nm) (33 + j) (1375 + 6 * j) 394 ad bd cI cZ cJ o (lvj j b (ad 0) (bd 0) o) := by
  intro tg fn ki nu fi se ju op en sm ob be af pl rf rp rs ra rb rl le la kd fs sc mi bh oo ie mp mt mc no lf he pi ot bf ar md g hR
  obtain ⟨⟨tn, fb, htb⟩, hPR, hBe, hCh, hLf, hno⟩ := hR
  have hcs : 33 + j ≤ room_1.cells ∧ 1375 + 6 * j ≤ room_1.slots := ⟨by show 33 + j ≤ 1060; omega, by show 1375 + 6 * j ≤ 9585; omega⟩
  obtain ⟨hs40, ho6, hen, hen1⟩ := hPR.b
  rcases Nat.lt_or_ge ob 6 with ho | ho
  · rcases Nat.lt_or_ge sm 40 with hs | hs
    · skip
      refine v_aload_n 395 rfl dL_law_394 rfl rfl ?_
      refine v_callV (n := 0) (q0 := 0) (ci := 4) (C := RX4) (As := []) (wM bd cI cZ le la kd fs sc mi bh sm oo ie ob mp rf rp rs mt mc no lf he pi ot bf ar md) (wC ad cI cZ tg fn ki nu fi se ju op en sm ob be af pl rf rp rs ra rb rl) (wC ad cI cZ tg fn (upd ki en (nI 4)) (upd nu en (nI sm)) (upd fi en (nI 0)) (upd se en (nI 0)) ju (upd op ob (nI en)) (en + 1) (sm + 1) (ob + 1) be af pl rf rp rs ra rb rl) (wO o cJ g) 398 rfl (c_choose hs ho (hen1 hs)) gL_law_X4_choose rfl (by decide +kernel) rfl ⟨(Nat.le_of_ble_eq_true rfl), (Nat.le_of_ble_eq_true rfl)⟩ rfl (Nat.le_of_ble_eq_true rfl) rfl rfl rfl dL_law_395 hcs rfl rfl ?_
      refine v_w (w' := wM bd cI cZ le la kd fs sc mi bh sm oo ie ob mp rf rp rs mt mc no lf he pi ot bf ar md ++ (wC ad cI cZ tg fn (upd ki en (nI 4)) (upd nu en (nI sm)) (upd fi en (nI 0)) (upd se en (nI 0)) ju (upd op ob (nI en)) (en + 1) (sm + 1) (ob + 1) be af pl rf rp rs ra rb rl ++ wO o cJ g)) rfl ?_
      refine v_st (st' := [.int (nI sm)]) rfl ?_
      refine v_aload_n 399 rfl dL_law_398 rfl rfl ?_
      refine v_callV (n := 0) (q0 := 0) (ci := 5) (C := RX5) (As := []) ([]) (wM bd cI cZ le la kd fs sc mi bh sm oo ie ob mp rf rp rs mt mc no lf he pi ot bf ar md) (wM bd cI cZ le la (upd kd sm (nI 4)) (upd fs sm (nI 0)) (upd sc sm (nI 0)) mi bh (sm + 1) (upd oo ob (nI sm)) (upd ie ob (bI false)) (ob + 1) mp rf rp rs (nI 0) mc no lf he pi ot bf ar md) (wC ad cI cZ tg fn (upd ki en (nI 4)) (upd nu en (nI sm)) (upd fi en (nI 0)) (upd se en (nI 0)) ju (upd op ob (nI en)) (en + 1) (sm + 1) (ob + 1) be af pl rf rp rs ra rb rl ++ wO o cJ g) 402 rfl (m_choose hs ho) gL_law_X5_choose rfl (by decide +kernel) rfl ⟨(Nat.le_of_ble_eq_true rfl), (Nat.le_of_ble_eq_true rfl)⟩ rfl (Nat.le_of_ble_eq_true rfl) rfl rfl rfl dL_law_399 hcs rfl rfl ?_
      refine v_w (w' := wM bd cI cZ le la (upd kd sm (nI 4)) (upd fs sm (nI 0)) (upd sc sm (nI 0)) mi bh (sm + 1) (upd oo ob (nI sm)) (upd ie ob (bI false)) (ob + 1) mp rf rp rs (nI 0) mc no lf he pi ot bf ar md ++ (wC ad cI cZ tg fn (upd ki en (nI 4)) (upd nu en (nI sm)) (upd fi en (nI 0)) (upd se en (nI 0)) ju (upd op ob (nI en)) (en + 1) (sm + 1) (ob + 1) be af pl rf rp rs ra rb rl ++ wO o cJ g)) rfl ?_
      refine v_st (st' := [.int (nI sm), .int (nI sm)]) rfl ?_
      refine v_icmp_eq 665 405 rfl dL_law_402 (by decide) (fun _ => ?_) (fun q => absurd rfl q)
      refine v_widen (Nat.le_succ _) (Nat.le_add_right _ 6) ?_
      exact T tg fn (upd ki en (nI 4)) (upd nu en (nI sm)) (upd fi en (nI 0)) (upd se en (nI 0)) ju (upd op ob (nI en)) (en + 1) (sm + 1) (ob + 1) be af pl rf rp rs ra rb rl le la (upd kd sm (nI 4)) (upd fs sm (nI 0)) (upd sc sm (nI 0)) mi bh (upd oo ob (nI sm)) (upd ie ob (bI false)) mp (nI 0) mc no lf he pi ot bf ar md g ⟨⟨tn, fb, htb⟩, hPR.opening 4 (by omega) hs ho, hBe, hCh, hLf, hno⟩
    · have hs : sm = 40 := by omega
      refine v_aload_n 395 rfl dL_law_394 rfl rfl ?_
      refine v_callV (n := 0) (q0 := 0) (ci := 4) (C := RX4) (As := []) (wM bd cI cZ le la kd fs sc mi bh sm oo ie ob mp rf rp rs mt mc no lf he pi ot bf ar md) (wC ad cI cZ tg fn ki nu fi se ju op en sm ob be af pl rf rp rs ra rb rl) (wC ad cI cZ tg fn ki nu fi se ju op en sm ob be af pl rf rp rs ra rb rl) (wO o cJ g) 398 rfl (c_chooseNo hs40 ho6 (Or.inl hs)) gL_law_X4_choose rfl (by decide +kernel) rfl ⟨(Nat.le_of_ble_eq_true rfl), (Nat.le_of_ble_eq_true rfl)⟩ rfl (Nat.le_of_ble_eq_true rfl) rfl rfl rfl dL_law_395 hcs rfl rfl ?_
      refine v_w (w' := wM bd cI cZ le la kd fs sc mi bh sm oo ie ob mp rf rp rs mt mc no lf he pi ot bf ar md ++ (wC ad cI cZ tg fn ki nu fi se ju op en sm ob be af pl rf rp rs ra rb rl ++ wO o cJ g)) rfl ?_
      refine v_st (st' := [.int (-1)]) rfl ?_
      refine v_aload_n 399 rfl dL_law_398 rfl rfl ?_
      refine v_callV (n := 0) (q0 := 0) (ci := 5) (C := RX5) (As := []) ([]) (wM bd cI cZ le la kd fs sc mi bh sm oo ie ob mp rf rp rs mt mc no lf he pi ot bf ar md) (wM bd cI cZ le la kd fs sc mi bh sm oo ie ob mp rf rp rs (nI 0) mc no lf he pi ot bf ar md) (wC ad cI cZ tg fn ki nu fi se ju op en sm ob be af pl rf rp rs ra rb rl ++ wO o cJ g) 402 rfl (m_chooseF hs ho) gL_law_X5_choose rfl (by decide +kernel) rfl ⟨(Nat.le_of_ble_eq_true rfl), (Nat.le_of_ble_eq_true rfl)⟩ rfl (Nat.le_of_ble_eq_true rfl) rfl rfl rfl dL_law_399 hcs rfl rfl ?_
      refine v_w (w' := wM bd cI cZ le la kd fs sc mi bh sm oo ie ob mp rf rp rs (nI 0) mc no lf he pi ot bf ar md ++ (wC ad cI cZ tg fn ki nu fi se ju op en sm ob be af pl rf rp rs ra rb rl ++ wO o cJ g)) rfl ?_
      refine v_st (st' := [.int (-1), .int (-1)]) rfl ?_
      refine v_icmp_eq 665 405 rfl dL_law_402 (by decide) (fun _ => ?_) (fun q => absurd rfl q)
      refine v_widen (Nat.le_succ _) (Nat.le_add_right _ 6) ?_
      exact T tg fn ki nu fi se ju op en sm ob be af pl rf rp rs ra rb rl le la kd fs sc mi bh oo ie mp (nI 0) mc no lf he pi ot bf ar md g ⟨⟨tn, fb, htb⟩, hPR, hBe, hCh, hLf, hno⟩
  · have ho : ob = 6 := by omega
    refine v_aload_n 395 rfl dL_law_394 rfl rfl ?_
    refine v_callV (n := 0) (q0 := 0) (ci := 4) (C := RX4) (As := []) (wM bd cI cZ le la kd fs sc mi bh sm oo ie ob mp rf rp rs mt mc no lf he pi ot bf ar md) (wC ad cI cZ tg fn ki nu fi se ju op en sm ob be af pl rf rp rs ra rb rl) (wC ad cI cZ tg fn ki nu fi se ju op en sm ob be af pl rf rp rs ra rb rl) (wO o cJ g) 398 rfl (c_chooseNo hs40 ho6 (Or.inr ho)) gL_law_X4_choose rfl (by decide +kernel) rfl ⟨(Nat.le_of_ble_eq_true rfl), (Nat.le_of_ble_eq_true rfl)⟩ rfl (Nat.le_of_ble_eq_true rfl) rfl rfl rfl dL_law_395 hcs rfl rfl ?_
    refine v_w (w' := wM bd cI cZ le la kd fs sc mi bh sm oo ie ob mp rf rp rs mt mc no lf he pi ot bf ar md ++ (wC ad cI cZ tg fn ki nu fi se ju op en sm ob be af pl rf rp rs ra rb rl ++ wO o cJ g)) rfl ?_
    refine v_st (st' := [.int (-1)]) rfl ?_
    refine v_aload_n 399 rfl dL_law_398 rfl rfl ?_
    refine v_callV (n := 0) (q0 := 0) (ci := 5) (C := RX5) (As := []) ([]) (wM bd cI cZ le la kd fs sc mi bh sm oo ie ob mp rf rp rs mt mc no lf he pi ot bf ar md) (wM bd cI cZ le la kd fs sc mi bh sm oo ie ob mp rf rp rs (nI 0) mc no lf he pi ot bf ar md) (wC ad cI cZ tg fn ki nu fi se ju op en sm ob be af pl rf rp rs ra rb rl ++ wO o cJ g) 402 rfl (m_choose6 ho) gL_law_X5_choose rfl (by decide +kernel) rfl ⟨(Nat.le_of_ble_eq_true rfl), (Nat.le_of_ble_eq_true rfl)⟩ rfl (Nat.le_of_ble_eq_true rfl) rfl rfl rfl dL_law_399 hcs rfl rfl ?_
    refine v_w (w' := wM bd cI cZ le la kd fs sc mi bh sm oo ie ob mp rf rp rs (nI 0) mc no lf he pi ot bf ar md ++ (wC ad cI cZ tg fn ki nu fi se ju op en sm ob be af pl rf rp rs ra rb rl ++ wO o cJ g)) rfl ?_
    refine v_st (st' := [.int (-1), .int (-1)]) rfl ?_
    refine v_icmp_eq 665 405 rfl dL_law_402 (by decide) (fun _ => ?_) (fun q => absurd rfl q)
    refine v_widen (Nat.le_succ _) (Nat.le_add_right _ 6) ?_
    exact T tg fn ki nu fi se ju op en sm ob be af pl rf rp rs ra rb rl le la kd fs sc mi bh oo ie mp (nI 0) mc no lf he pi ot bf ar md g ⟨⟨tn, fb, htb⟩, hPR, hBe, hCh, hLf, hno⟩
set_option maxRecDepth 100000 in
set_option maxHeartbeats 4000000 in
theorem k_repeat {D : va_G} {cI cZ cJ : ClassId} {l : Launch} {b L : Nat} {xs : Nat → Int32} {sa : Nat → Nat} {nm : String} {ad bd : Nat → Nat} {o : Nat} (hlT : l.stackTraces = false) (j : Nat) (hj : 5 * j + 5 ≤ L) (hL : L ≤ 2560) (T : LHd (xLw D cI cZ cJ l b L xs sa) (kLw nm) (33 + j + 1) (1375 + 6 * j + 6) 665 ad bd cI cZ cJ o (lvj j b (ad 0) (bd 0) o)) : LHd (xLw D cI cZ cJ l b L xs sa) (kLw nm) (33 + j) (1375 + 6 * j) 420 ad bd cI cZ cJ o (lvj j b (ad 0) (bd 0) o) := by
  intro tg fn ki nu fi se ju op en sm ob be af pl rf rp rs ra rb rl le la kd fs sc mi bh oo ie mp mt mc no lf he pi ot bf ar md g hR
  obtain ⟨⟨tn, fb, htb⟩, hPR, hBe, hCh, hLf, hno⟩ := hR
  have hcs : 33 + j ≤ room_1.cells ∧ 1375 + 6 * j ≤ room_1.slots := ⟨by show 33 + j ≤ 1060; omega, by show 1375 + 6 * j ≤ 9585; omega⟩
  obtain ⟨hs40, ho6, hen, hen1⟩ := hPR.b
  rcases Nat.lt_or_ge ob 6 with ho | ho
  · rcases Nat.lt_or_ge sm 40 with hs | hs
    · skip
      refine v_aload_n 421 rfl dL_law_420 rfl rfl ?_
      refine v_callV (n := 0) (q0 := 0) (ci := 4) (C := RX4) (As := []) (wM bd cI cZ le la kd fs sc mi bh sm oo ie ob mp rf rp rs mt mc no lf he pi ot bf ar md) (wC ad cI cZ tg fn ki nu fi se ju op en sm ob be af pl rf rp rs ra rb rl) (wC ad cI cZ tg fn (upd ki en (nI 7)) (upd nu en (nI sm)) (upd fi en (nI 0)) (upd se en (nI 0)) ju (upd op ob (nI en)) (en + 1) (sm + 1) (ob + 1) be af pl rf rp rs ra rb rl) (wO o cJ g) 424 rfl (c_repeat hs ho (hen1 hs)) gL_law_X4_repeat rfl (by decide +kernel) rfl ⟨(Nat.le_of_ble_eq_true rfl), (Nat.le_of_ble_eq_true rfl)⟩ rfl (Nat.le_of_ble_eq_true rfl) rfl rfl rfl dL_law_421 hcs rfl rfl ?_
      refine v_w (w' := wM bd cI cZ le la kd fs sc mi bh sm oo ie ob mp rf rp rs mt mc no lf he pi ot bf ar md ++ (wC ad cI cZ tg fn (upd ki en (nI 7)) (upd nu en (nI sm)) (upd fi en (nI 0)) (upd se en (nI 0)) ju (upd op ob (nI en)) (en + 1) (sm + 1) (ob + 1) be af pl rf rp rs ra rb rl ++ wO o cJ g)) rfl ?_
      refine v_st (st' := [.int (nI sm)]) rfl ?_
      refine v_aload_n 425 rfl dL_law_424 rfl rfl ?_
      refine v_callV (n := 0) (q0 := 0) (ci := 5) (C := RX5) (As := []) ([]) (wM bd cI cZ le la kd fs sc mi bh sm oo ie ob mp rf rp rs mt mc no lf he pi ot bf ar md) (wM bd cI cZ le la (upd kd sm (nI 5)) (upd fs sm (nI 0)) (upd sc sm (nI 0)) mi bh (sm + 1) (upd oo ob (nI sm)) (upd ie ob (bI false)) (ob + 1) mp rf rp rs (nI 0) mc no lf he pi ot bf ar md) (wC ad cI cZ tg fn (upd ki en (nI 7)) (upd nu en (nI sm)) (upd fi en (nI 0)) (upd se en (nI 0)) ju (upd op ob (nI en)) (en + 1) (sm + 1) (ob + 1) be af pl rf rp rs ra rb rl ++ wO o cJ g) 428 rfl (m_repeat hs ho) gL_law_X5_repeat rfl (by decide +kernel) rfl ⟨(Nat.le_of_ble_eq_true rfl), (Nat.le_of_ble_eq_true rfl)⟩ rfl (Nat.le_of_ble_eq_true rfl) rfl rfl rfl dL_law_425 hcs rfl rfl ?_
      refine v_w (w' := wM bd cI cZ le la (upd kd sm (nI 5)) (upd fs sm (nI 0)) (upd sc sm (nI 0)) mi bh (sm + 1) (upd oo ob (nI sm)) (upd ie ob (bI false)) (ob + 1) mp rf rp rs (nI 0) mc no lf he pi ot bf ar md ++ (wC ad cI cZ tg fn (upd ki en (nI 7)) (upd nu en (nI sm)) (upd fi en (nI 0)) (upd se en (nI 0)) ju (upd op ob (nI en)) (en + 1) (sm + 1) (ob + 1) be af pl rf rp rs ra rb rl ++ wO o cJ g)) rfl ?_
      refine v_st (st' := [.int (nI sm), .int (nI sm)]) rfl ?_
      refine v_icmp_eq 665 431 rfl dL_law_428 (by decide) (fun _ => ?_) (fun q => absurd rfl q)
      refine v_widen (Nat.le_succ _) (Nat.le_add_right _ 6) ?_
      exact T tg fn (upd ki en (nI 7)) (upd nu en (nI sm)) (upd fi en (nI 0)) (upd se en (nI 0)) ju (upd op ob (nI en)) (en + 1) (sm + 1) (ob + 1) be af pl rf rp rs ra rb rl le la (upd kd sm (nI 5)) (upd fs sm (nI 0)) (upd sc sm (nI 0)) mi bh (upd oo ob (nI sm)) (upd ie ob (bI false)) mp (nI 0) mc no lf he pi ot bf ar md g ⟨⟨tn, fb, htb⟩, hPR.opening 7 (by omega) hs ho, hBe, hCh, hLf, hno⟩
    · have hs : sm = 40 := by omega
      refine v_aload_n 421 rfl dL_law_420 rfl rfl ?_
      refine v_callV (n := 0) (q0 := 0) (ci := 4) (C := RX4) (As := []) (wM bd cI cZ le la kd fs sc mi bh sm oo ie ob mp rf rp rs mt mc no lf he pi ot bf ar md) (wC ad cI cZ tg fn ki nu fi se ju op en sm ob be af pl rf rp rs ra rb rl) (wC ad cI cZ tg fn ki nu fi se ju op en sm ob be af pl rf rp rs ra rb rl) (wO o cJ g) 424 rfl (c_repeatNo hs40 ho6 (Or.inl hs)) gL_law_X4_repeat rfl (by decide +kernel) rfl ⟨(Nat.le_of_ble_eq_true rfl), (Nat.le_of_ble_eq_true rfl)⟩ rfl (Nat.le_of_ble_eq_true rfl) rfl rfl rfl dL_law_421 hcs rfl rfl ?_
      refine v_w (w' := wM bd cI cZ le la kd fs sc mi bh sm oo ie ob mp rf rp rs mt mc no lf he pi ot bf ar md ++ (wC ad cI cZ tg fn ki nu fi se ju op en sm ob be af pl rf rp rs ra rb rl ++ wO o cJ g)) rfl ?_
      refine v_st (st' := [.int (-1)]) rfl ?_
      refine v_aload_n 425 rfl dL_law_424 rfl rfl ?_
      refine v_callV (n := 0) (q0 := 0) (ci := 5) (C := RX5) (As := []) ([]) (wM bd cI cZ le la kd fs sc mi bh sm oo ie ob mp rf rp rs mt mc no lf he pi ot bf ar md) (wM bd cI cZ le la kd fs sc mi bh sm oo ie ob mp rf rp rs (nI 0) mc no lf he pi ot bf ar md) (wC ad cI cZ tg fn ki nu fi se ju op en sm ob be af pl rf rp rs ra rb rl ++ wO o cJ g) 428 rfl (m_repeatF hs ho) gL_law_X5_repeat rfl (by decide +kernel) rfl ⟨(Nat.le_of_ble_eq_true rfl), (Nat.le_of_ble_eq_true rfl)⟩ rfl (Nat.le_of_ble_eq_true rfl) rfl rfl rfl dL_law_425 hcs rfl rfl ?_
      refine v_w (w' := wM bd cI cZ le la kd fs sc mi bh sm oo ie ob mp rf rp rs (nI 0) mc no lf he pi ot bf ar md ++ (wC ad cI cZ tg fn ki nu fi se ju op en sm ob be af pl rf rp rs ra rb rl ++ wO o cJ g)) rfl ?_
      refine v_st (st' := [.int (-1), .int (-1)]) rfl ?_
      refine v_icmp_eq 665 431 rfl dL_law_428 (by decide) (fun _ => ?_) (fun q => absurd rfl q)
      refine v_widen (Nat.le_succ _) (Nat.le_add_right _ 6) ?_
      exact T tg fn ki nu fi se ju op en sm ob be af pl rf rp rs ra rb rl le la kd fs sc mi bh oo ie mp (nI 0) mc no lf he pi ot bf ar md g ⟨⟨tn, fb, htb⟩, hPR, hBe, hCh, hLf, hno⟩
  · have ho : ob = 6 := by omega
    refine v_aload_n 421 rfl dL_law_420 rfl rfl ?_
    refine v_callV (n := 0) (q0 := 0) (ci := 4) (C := RX4) (As := []) (wM bd cI cZ le la kd fs sc mi bh sm oo ie ob mp rf rp rs mt mc no lf he pi ot bf ar md) (wC ad cI cZ tg fn ki nu fi se ju op en sm ob be af pl rf rp rs ra rb rl) (wC ad cI cZ tg fn ki nu fi se ju op en sm ob be af pl rf rp rs ra rb rl) (wO o cJ g) 424 rfl (c_repeatNo hs40 ho6 (Or.inr ho)) gL_law_X4_repeat rfl (by decide +kernel) rfl ⟨(Nat.le_of_ble_eq_true rfl), (Nat.le_of_ble_eq_true rfl)⟩ rfl (Nat.le_of_ble_eq_true rfl) rfl rfl rfl dL_law_421 hcs rfl rfl ?_
    refine v_w (w' := wM bd cI cZ le la kd fs sc mi bh sm oo ie ob mp rf rp rs mt mc no lf he pi ot bf ar md ++ (wC ad cI cZ tg fn ki nu fi se ju op en sm ob be af pl rf rp rs ra rb rl ++ wO o cJ g)) rfl ?_
    refine v_st (st' := [.int (-1)]) rfl ?_
    refine v_aload_n 425 rfl dL_law_424 rfl rfl ?_
    refine v_callV (n := 0) (q0 := 0) (ci := 5) (C := RX5) (As := []) ([]) (wM bd cI cZ le la kd fs sc mi bh sm oo ie ob mp rf rp rs mt mc no lf he pi ot bf ar md) (wM bd cI cZ le la kd fs sc mi bh sm oo ie ob mp rf rp rs (nI 0) mc no lf he pi ot bf ar md) (wC ad cI cZ tg fn ki nu fi se ju op en sm ob be af pl rf rp rs ra rb rl ++ wO o cJ g) 428 rfl (m_repeat6 ho) gL_law_X5_repeat rfl (by decide +kernel) rfl ⟨(Nat.le_of_ble_eq_true rfl), (Nat.le_of_ble_eq_true rfl)⟩ rfl (Nat.le_of_ble_eq_true rfl) rfl rfl rfl dL_law_425 hcs rfl rfl ?_
    refine v_w (w' := wM bd cI cZ le la kd fs sc mi bh sm oo ie ob mp rf rp rs (nI 0) mc no lf he pi ot bf ar md ++ (wC ad cI cZ tg fn ki nu fi se ju op en sm ob be af pl rf rp rs ra rb rl ++ wO o cJ g)) rfl ?_
    refine v_st (st' := [.int (-1), .int (-1)]) rfl ?_
    refine v_icmp_eq 665 431 rfl dL_law_428 (by decide) (fun _ => ?_) (fun q => absurd rfl q)
    refine v_widen (Nat.le_succ _) (Nat.le_add_right _ 6) ?_
    exact T tg fn ki nu fi se ju op en sm ob be af pl rf rp rs ra rb rl le la kd fs sc mi bh oo ie mp (nI 0) mc no lf he pi ot bf ar md g ⟨⟨tn, fb, htb⟩, hPR, hBe, hCh, hLf, hno⟩
set_option maxRecDepth 100000 in
set_option maxHeartbeats 4000000 in
theorem k_otherwise {D : va_G} {cI cZ cJ : ClassId} {l : Launch} {b L : Nat} {xs : Nat → Int32} {sa : Nat → Nat} {nm : String} {ad bd : Nat → Nat} {o : Nat} (hlT : l.stackTraces = false) (j : Nat) (hj : 5 * j + 5 ≤ L) (hL : L ≤ 2560) (T : LHd (xLw D cI cZ cJ l b L xs sa) (kLw nm) (33 + j + 1) (1375 + 6 * j + 6) 665 ad bd cI cZ cJ o (lvj j b (ad 0) (bd 0) o)) : LHd (xLw D cI cZ cJ l b L xs sa) (kLw nm) (33 + j) (1375 + 6 * j) 407 ad bd cI cZ cJ o (lvj j b (ad 0) (bd 0) o) := by
  intro tg fn ki nu fi se ju op en sm ob be af pl rf rp rs ra rb rl le la kd fs sc mi bh oo ie mp mt mc no lf he pi ot bf ar md g hR
  obtain ⟨⟨tn, fb, htb⟩, hPR, hBe, hCh, hLf, hno⟩ := hR
  have hcs : 33 + j ≤ room_1.cells ∧ 1375 + 6 * j ≤ room_1.slots := ⟨by show 33 + j ≤ 1060; omega, by show 1375 + 6 * j ≤ 9585; omega⟩
  obtain ⟨hs40, ho6, hen, hen1⟩ := hPR.b
  rcases Nat.eq_zero_or_pos ob with h0 | h0
  · skip
    refine v_aload_n 408 rfl dL_law_407 rfl rfl ?_
    refine v_callV (n := 0) (q0 := 0) (ci := 4) (C := RX4) (As := []) (wM bd cI cZ le la kd fs sc mi bh sm oo ie ob mp rf rp rs mt mc no lf he pi ot bf ar md) (wC ad cI cZ tg fn ki nu fi se ju op en sm ob be af pl rf rp rs ra rb rl) (wC ad cI cZ tg fn ki nu fi se ju op en sm ob be af pl rf rp rs ra rb rl) (wO o cJ g) 411 rfl (c_otherwise0 h0) gL_law_X4_otherwise rfl (by decide +kernel) rfl ⟨(Nat.le_of_ble_eq_true rfl), (Nat.le_of_ble_eq_true rfl)⟩ rfl (Nat.le_of_ble_eq_true rfl) rfl rfl rfl dL_law_408 hcs rfl rfl ?_
    refine v_w (w' := wM bd cI cZ le la kd fs sc mi bh sm oo ie ob mp rf rp rs mt mc no lf he pi ot bf ar md ++ (wC ad cI cZ tg fn ki nu fi se ju op en sm ob be af pl rf rp rs ra rb rl ++ wO o cJ g)) rfl ?_
    refine v_st (st' := [.int (bI false)]) rfl ?_
    refine v_aload_n 412 rfl dL_law_411 rfl rfl ?_
    refine v_callV (n := 0) (q0 := 0) (ci := 5) (C := RX5) (As := []) ([]) (wM bd cI cZ le la kd fs sc mi bh sm oo ie ob mp rf rp rs mt mc no lf he pi ot bf ar md) (wM bd cI cZ le la kd fs sc mi bh sm oo ie ob mp rf rp rs (nI 0) mc no lf he pi ot bf ar md) (wC ad cI cZ tg fn ki nu fi se ju op en sm ob be af pl rf rp rs ra rb rl ++ wO o cJ g) 415 rfl (m_otherwise0 h0) gL_law_X5_otherwise rfl (by decide +kernel) rfl ⟨(Nat.le_of_ble_eq_true rfl), (Nat.le_of_ble_eq_true rfl)⟩ rfl (Nat.le_of_ble_eq_true rfl) rfl rfl rfl dL_law_412 hcs rfl rfl ?_
    refine v_w (w' := wM bd cI cZ le la kd fs sc mi bh sm oo ie ob mp rf rp rs (nI 0) mc no lf he pi ot bf ar md ++ (wC ad cI cZ tg fn ki nu fi se ju op en sm ob be af pl rf rp rs ra rb rl ++ wO o cJ g)) rfl ?_
    refine v_st (st' := [.int (bI false), .int (bI false)]) rfl ?_
    refine v_icmp_eq 665 418 rfl dL_law_415 (by decide) (fun _ => ?_) (fun q => absurd rfl q)
    refine v_widen (Nat.le_succ _) (Nat.le_add_right _ 6) ?_
    exact T tg fn ki nu fi se ju op en sm ob be af pl rf rp rs ra rb rl le la kd fs sc mi bh oo ie mp (nI 0) mc no lf he pi ot bf ar md g ⟨⟨tn, fb, htb⟩, hPR, hBe, hCh, hLf, hno⟩
  · obtain ⟨b1, n1, d1, r1, t1, t2, t3, t4, t5, t6, t7, t8, t9, t10, t11, t12⟩ := hPR.top h0
    rcases t3 with rfl | rfl | rfl
    · skip
      refine v_aload_n 408 rfl dL_law_407 rfl rfl ?_
      refine v_callV (n := 0) (q0 := 0) (ci := 4) (C := RX4) (As := []) (wM bd cI cZ le la kd fs sc mi bh sm oo ie ob mp rf rp rs mt mc no lf he pi ot bf ar md) (wC ad cI cZ tg fn ki nu fi se ju op en sm ob be af pl rf rp rs ra rb rl) (wC ad cI cZ tg fn (upd ki en (nI 5)) (upd nu en (nI n1)) (upd fi en (nI 0)) (upd se en (nI 0)) (upd ju b1 (nI (en + 1))) (upd op (ob - 1) (nI en)) (en + 1) sm ob be af pl rf rp rs ra rb rl) (wO o cJ g) 411 rfl (c_otherwise b1 (nI n1) h0 ho6 t8 t7 t11 t2 t4) gL_law_X4_otherwise rfl (by decide +kernel) rfl ⟨(Nat.le_of_ble_eq_true rfl), (Nat.le_of_ble_eq_true rfl)⟩ rfl (Nat.le_of_ble_eq_true rfl) rfl rfl rfl dL_law_408 hcs rfl rfl ?_
      refine v_w (w' := wM bd cI cZ le la kd fs sc mi bh sm oo ie ob mp rf rp rs mt mc no lf he pi ot bf ar md ++ (wC ad cI cZ tg fn (upd ki en (nI 5)) (upd nu en (nI n1)) (upd fi en (nI 0)) (upd se en (nI 0)) (upd ju b1 (nI (en + 1))) (upd op (ob - 1) (nI en)) (en + 1) sm ob be af pl rf rp rs ra rb rl ++ wO o cJ g)) rfl ?_
      refine v_st (st' := [.int (bI true)]) rfl ?_
      refine v_aload_n 412 rfl dL_law_411 rfl rfl ?_
      refine v_callV (n := 0) (q0 := 0) (ci := 5) (C := RX5) (As := []) ([]) (wM bd cI cZ le la kd fs sc mi bh sm oo ie ob mp rf rp rs mt mc no lf he pi ot bf ar md) (wM bd cI cZ le la kd fs sc (upd mi n1 (nI sm)) bh sm oo (upd ie (ob - 1) (bI true)) ob mp rf rp rs (nI 0) mc no lf he pi ot bf ar md) (wC ad cI cZ tg fn (upd ki en (nI 5)) (upd nu en (nI n1)) (upd fi en (nI 0)) (upd se en (nI 0)) (upd ju b1 (nI (en + 1))) (upd op (ob - 1) (nI en)) (en + 1) sm ob be af pl rf rp rs ra rb rl ++ wO o cJ g) 415 rfl (m_otherwise n1 h0 ho6 t9 t5 t6 t10) gL_law_X5_otherwise rfl (by decide +kernel) rfl ⟨(Nat.le_of_ble_eq_true rfl), (Nat.le_of_ble_eq_true rfl)⟩ rfl (Nat.le_of_ble_eq_true rfl) rfl rfl rfl dL_law_412 hcs rfl rfl ?_
      refine v_w (w' := wM bd cI cZ le la kd fs sc (upd mi n1 (nI sm)) bh sm oo (upd ie (ob - 1) (bI true)) ob mp rf rp rs (nI 0) mc no lf he pi ot bf ar md ++ (wC ad cI cZ tg fn (upd ki en (nI 5)) (upd nu en (nI n1)) (upd fi en (nI 0)) (upd se en (nI 0)) (upd ju b1 (nI (en + 1))) (upd op (ob - 1) (nI en)) (en + 1) sm ob be af pl rf rp rs ra rb rl ++ wO o cJ g)) rfl ?_
      refine v_st (st' := [.int (bI true), .int (bI true)]) rfl ?_
      refine v_icmp_eq 665 418 rfl dL_law_415 (by decide) (fun _ => ?_) (fun q => absurd rfl q)
      refine v_widen (Nat.le_succ _) (Nat.le_add_right _ 6) ?_
      exact T tg fn (upd ki en (nI 5)) (upd nu en (nI n1)) (upd fi en (nI 0)) (upd se en (nI 0)) (upd ju b1 (nI (en + 1))) (upd op (ob - 1) (nI en)) (en + 1) sm ob be af pl rf rp rs ra rb rl le la kd fs sc (upd mi n1 (nI sm)) bh oo (upd ie (ob - 1) (bI true)) mp (nI 0) mc no lf he pi ot bf ar md g ⟨⟨tn, fb, htb⟩, hPR.else_ b1 n1 r1 t1 t2 t4 t5, hBe, hCh, hLf, hno⟩
    · skip
      refine v_aload_n 408 rfl dL_law_407 rfl rfl ?_
      refine v_callV (n := 0) (q0 := 0) (ci := 4) (C := RX4) (As := []) (wM bd cI cZ le la kd fs sc mi bh sm oo ie ob mp rf rp rs mt mc no lf he pi ot bf ar md) (wC ad cI cZ tg fn ki nu fi se ju op en sm ob be af pl rf rp rs ra rb rl) (wC ad cI cZ tg fn ki nu fi se ju op en sm ob be af pl rf rp rs ra rb rl) (wO o cJ g) 411 rfl (c_otherwiseNo b1 5 h0 ho6 t8 t7 hen t2 (by omega) (by omega)) gL_law_X4_otherwise rfl (by decide +kernel) rfl ⟨(Nat.le_of_ble_eq_true rfl), (Nat.le_of_ble_eq_true rfl)⟩ rfl (Nat.le_of_ble_eq_true rfl) rfl rfl rfl dL_law_408 hcs rfl rfl ?_
      refine v_w (w' := wM bd cI cZ le la kd fs sc mi bh sm oo ie ob mp rf rp rs mt mc no lf he pi ot bf ar md ++ (wC ad cI cZ tg fn ki nu fi se ju op en sm ob be af pl rf rp rs ra rb rl ++ wO o cJ g)) rfl ?_
      refine v_st (st' := [.int (bI false)]) rfl ?_
      refine v_aload_n 412 rfl dL_law_411 rfl rfl ?_
      refine v_callV (n := 0) (q0 := 0) (ci := 5) (C := RX5) (As := []) ([]) (wM bd cI cZ le la kd fs sc mi bh sm oo ie ob mp rf rp rs mt mc no lf he pi ot bf ar md) (wM bd cI cZ le la kd fs sc mi bh sm oo ie ob mp rf rp rs (nI 0) mc no lf he pi ot bf ar md) (wC ad cI cZ tg fn ki nu fi se ju op en sm ob be af pl rf rp rs ra rb rl ++ wO o cJ g) 415 rfl (m_otherwiseE n1 h0 ho6 t9 t5 t6 t10) gL_law_X5_otherwise rfl (by decide +kernel) rfl ⟨(Nat.le_of_ble_eq_true rfl), (Nat.le_of_ble_eq_true rfl)⟩ rfl (Nat.le_of_ble_eq_true rfl) rfl rfl rfl dL_law_412 hcs rfl rfl ?_
      refine v_w (w' := wM bd cI cZ le la kd fs sc mi bh sm oo ie ob mp rf rp rs (nI 0) mc no lf he pi ot bf ar md ++ (wC ad cI cZ tg fn ki nu fi se ju op en sm ob be af pl rf rp rs ra rb rl ++ wO o cJ g)) rfl ?_
      refine v_st (st' := [.int (bI false), .int (bI false)]) rfl ?_
      refine v_icmp_eq 665 418 rfl dL_law_415 (by decide) (fun _ => ?_) (fun q => absurd rfl q)
      refine v_widen (Nat.le_succ _) (Nat.le_add_right _ 6) ?_
      exact T tg fn ki nu fi se ju op en sm ob be af pl rf rp rs ra rb rl le la kd fs sc mi bh oo ie mp (nI 0) mc no lf he pi ot bf ar md g ⟨⟨tn, fb, htb⟩, hPR, hBe, hCh, hLf, hno⟩
    · skip
      refine v_aload_n 408 rfl dL_law_407 rfl rfl ?_
      refine v_callV (n := 0) (q0 := 0) (ci := 4) (C := RX4) (As := []) (wM bd cI cZ le la kd fs sc mi bh sm oo ie ob mp rf rp rs mt mc no lf he pi ot bf ar md) (wC ad cI cZ tg fn ki nu fi se ju op en sm ob be af pl rf rp rs ra rb rl) (wC ad cI cZ tg fn ki nu fi se ju op en sm ob be af pl rf rp rs ra rb rl) (wO o cJ g) 411 rfl (c_otherwiseNo b1 7 h0 ho6 t8 t7 hen t2 (by omega) (by omega)) gL_law_X4_otherwise rfl (by decide +kernel) rfl ⟨(Nat.le_of_ble_eq_true rfl), (Nat.le_of_ble_eq_true rfl)⟩ rfl (Nat.le_of_ble_eq_true rfl) rfl rfl rfl dL_law_408 hcs rfl rfl ?_
      refine v_w (w' := wM bd cI cZ le la kd fs sc mi bh sm oo ie ob mp rf rp rs mt mc no lf he pi ot bf ar md ++ (wC ad cI cZ tg fn ki nu fi se ju op en sm ob be af pl rf rp rs ra rb rl ++ wO o cJ g)) rfl ?_
      refine v_st (st' := [.int (bI false)]) rfl ?_
      refine v_aload_n 412 rfl dL_law_411 rfl rfl ?_
      refine v_callV (n := 0) (q0 := 0) (ci := 5) (C := RX5) (As := []) ([]) (wM bd cI cZ le la kd fs sc mi bh sm oo ie ob mp rf rp rs mt mc no lf he pi ot bf ar md) (wM bd cI cZ le la kd fs sc mi bh sm oo ie ob mp rf rp rs (nI 0) mc no lf he pi ot bf ar md) (wC ad cI cZ tg fn ki nu fi se ju op en sm ob be af pl rf rp rs ra rb rl ++ wO o cJ g) 415 rfl (m_otherwiseW n1 h0 ho6 t9 t5 t6) gL_law_X5_otherwise rfl (by decide +kernel) rfl ⟨(Nat.le_of_ble_eq_true rfl), (Nat.le_of_ble_eq_true rfl)⟩ rfl (Nat.le_of_ble_eq_true rfl) rfl rfl rfl dL_law_412 hcs rfl rfl ?_
      refine v_w (w' := wM bd cI cZ le la kd fs sc mi bh sm oo ie ob mp rf rp rs (nI 0) mc no lf he pi ot bf ar md ++ (wC ad cI cZ tg fn ki nu fi se ju op en sm ob be af pl rf rp rs ra rb rl ++ wO o cJ g)) rfl ?_
      refine v_st (st' := [.int (bI false), .int (bI false)]) rfl ?_
      refine v_icmp_eq 665 418 rfl dL_law_415 (by decide) (fun _ => ?_) (fun q => absurd rfl q)
      refine v_widen (Nat.le_succ _) (Nat.le_add_right _ 6) ?_
      exact T tg fn ki nu fi se ju op en sm ob be af pl rf rp rs ra rb rl le la kd fs sc mi bh oo ie mp (nI 0) mc no lf he pi ot bf ar md g ⟨⟨tn, fb, htb⟩, hPR, hBe, hCh, hLf, hno⟩
set_option maxRecDepth 100000 in
set_option maxHeartbeats 4000000 in
theorem k_end {D : va_G} {cI cZ cJ : ClassId} {l : Launch} {b L : Nat} {xs : Nat → Int32} {sa : Nat → Nat} {nm : String} {ad bd : Nat → Nat} {o : Nat} (hlT : l.stackTraces = false) (j : Nat) (hj : 5 * j + 5 ≤ L) (hL : L ≤ 2560) (T : LHd (xLw D cI cZ cJ l b L xs sa) (kLw nm) (33 + j + 1) (1375 + 6 * j + 6) 665 ad bd cI cZ cJ o (lvj j b (ad 0) (bd 0) o)) : LHd (xLw D cI cZ cJ l b L xs sa) (kLw nm) (33 + j) (1375 + 6 * j) 433 ad bd cI cZ cJ o (lvj j b (ad 0) (bd 0) o) := by
  intro tg fn ki nu fi se ju op en sm ob be af pl rf rp rs ra rb rl le la kd fs sc mi bh oo ie mp mt mc no lf he pi ot bf ar md g hR
  obtain ⟨⟨tn, fb, htb⟩, hPR, hBe, hCh, hLf, hno⟩ := hR
  have hcs : 33 + j ≤ room_1.cells ∧ 1375 + 6 * j ≤ room_1.slots := ⟨by show 33 + j ≤ 1060; omega, by show 1375 + 6 * j ≤ 9585; omega⟩
  obtain ⟨hs40, ho6, hen, hen1⟩ := hPR.b
  rcases Nat.eq_zero_or_pos ob with h0 | h0
  · skip
    refine v_aload_n 434 rfl dL_law_433 rfl rfl ?_
    refine v_callV (n := 0) (q0 := 0) (ci := 4) (C := RX4) (As := []) (wM bd cI cZ le la kd fs sc mi bh sm oo ie ob mp rf rp rs mt mc no lf he pi ot bf ar md) (wC ad cI cZ tg fn ki nu fi se ju op en sm ob be af pl rf rp rs ra rb rl) (wC ad cI cZ tg fn ki nu fi se ju op en sm ob be af pl rf rp rs ra rb rl) (wO o cJ g) 437 rfl (c_end0 h0) gL_law_X4_end rfl (by decide +kernel) rfl ⟨(Nat.le_of_ble_eq_true rfl), (Nat.le_of_ble_eq_true rfl)⟩ rfl (Nat.le_of_ble_eq_true rfl) rfl rfl rfl dL_law_434 hcs rfl rfl ?_
    refine v_w (w' := wM bd cI cZ le la kd fs sc mi bh sm oo ie ob mp rf rp rs mt mc no lf he pi ot bf ar md ++ (wC ad cI cZ tg fn ki nu fi se ju op en sm ob be af pl rf rp rs ra rb rl ++ wO o cJ g)) rfl ?_
    refine v_st (st' := [.int (bI false)]) rfl ?_
    refine v_aload_n 438 rfl dL_law_437 rfl rfl ?_
    refine v_callV (n := 0) (q0 := 0) (ci := 5) (C := RX5) (As := []) ([]) (wM bd cI cZ le la kd fs sc mi bh sm oo ie ob mp rf rp rs mt mc no lf he pi ot bf ar md) (wM bd cI cZ le la kd fs sc mi bh sm oo ie ob mp rf rp rs (nI 0) mc no lf he pi ot bf ar md) (wC ad cI cZ tg fn ki nu fi se ju op en sm ob be af pl rf rp rs ra rb rl ++ wO o cJ g) 441 rfl (m_end0 h0) gL_law_X5_end rfl (by decide +kernel) rfl ⟨(Nat.le_of_ble_eq_true rfl), (Nat.le_of_ble_eq_true rfl)⟩ rfl (Nat.le_of_ble_eq_true rfl) rfl rfl rfl dL_law_438 hcs rfl rfl ?_
    refine v_w (w' := wM bd cI cZ le la kd fs sc mi bh sm oo ie ob mp rf rp rs (nI 0) mc no lf he pi ot bf ar md ++ (wC ad cI cZ tg fn ki nu fi se ju op en sm ob be af pl rf rp rs ra rb rl ++ wO o cJ g)) rfl ?_
    refine v_st (st' := [.int (bI false), .int (bI false)]) rfl ?_
    refine v_icmp_eq 665 444 rfl dL_law_441 (by decide) (fun _ => ?_) (fun q => absurd rfl q)
    refine v_widen (Nat.le_succ _) (Nat.le_add_right _ 6) ?_
    exact T tg fn ki nu fi se ju op en sm ob be af pl rf rp rs ra rb rl le la kd fs sc mi bh oo ie mp (nI 0) mc no lf he pi ot bf ar md g ⟨⟨tn, fb, htb⟩, hPR, hBe, hCh, hLf, hno⟩
  · obtain ⟨b1, n1, d1, r1, t1, t2, t3, t4, t5, t6, t7, t8, t9, t10, t11, t12⟩ := hPR.top h0
    rcases t3 with rfl | rfl | rfl
    · skip
      refine v_aload_n 434 rfl dL_law_433 rfl rfl ?_
      refine v_callV (n := 0) (q0 := 0) (ci := 4) (C := RX4) (As := []) (wM bd cI cZ le la kd fs sc mi bh sm oo ie ob mp rf rp rs mt mc no lf he pi ot bf ar md) (wC ad cI cZ tg fn ki nu fi se ju op en sm ob be af pl rf rp rs ra rb rl) (wC ad cI cZ tg fn (upd (upd ki en (nI 5)) (en + 1) (nI 6)) (upd (upd nu en (nI n1)) (en + 1) (nI n1)) (upd (upd fi en (nI 0)) (en + 1) (nI 0)) (upd (upd se en (nI 0)) (en + 1) (nI 0)) (upd (upd ju b1 (nI (en + 1))) en (nI (en + 1 + 1))) (upd op (ob - 1) (nI en)) (en + 1 + 1) sm (ob - 1) be af pl rf rp rs ra rb rl) (wO o cJ g) 437 rfl (c_endI b1 (nI n1) h0 ho6 t8 t7 (t12 rfl) t2 t4) gL_law_X4_end rfl (by decide +kernel) rfl ⟨(Nat.le_of_ble_eq_true rfl), (Nat.le_of_ble_eq_true rfl)⟩ rfl (Nat.le_of_ble_eq_true rfl) rfl rfl rfl dL_law_434 hcs rfl rfl ?_
      refine v_w (w' := wM bd cI cZ le la kd fs sc mi bh sm oo ie ob mp rf rp rs mt mc no lf he pi ot bf ar md ++ (wC ad cI cZ tg fn (upd (upd ki en (nI 5)) (en + 1) (nI 6)) (upd (upd nu en (nI n1)) (en + 1) (nI n1)) (upd (upd fi en (nI 0)) (en + 1) (nI 0)) (upd (upd se en (nI 0)) (en + 1) (nI 0)) (upd (upd ju b1 (nI (en + 1))) en (nI (en + 1 + 1))) (upd op (ob - 1) (nI en)) (en + 1 + 1) sm (ob - 1) be af pl rf rp rs ra rb rl ++ wO o cJ g)) rfl ?_
      refine v_st (st' := [.int (bI true)]) rfl ?_
      refine v_aload_n 438 rfl dL_law_437 rfl rfl ?_
      refine v_callV (n := 0) (q0 := 0) (ci := 5) (C := RX5) (As := []) ([]) (wM bd cI cZ le la kd fs sc mi bh sm oo ie ob mp rf rp rs mt mc no lf he pi ot bf ar md) (wM bd cI cZ le la kd fs sc (upd mi n1 (nI sm)) (upd bh n1 (nI sm)) sm oo ie (ob - 1) mp rf rp rs (nI 0) mc no lf he pi ot bf ar md) (wC ad cI cZ tg fn (upd (upd ki en (nI 5)) (en + 1) (nI 6)) (upd (upd nu en (nI n1)) (en + 1) (nI n1)) (upd (upd fi en (nI 0)) (en + 1) (nI 0)) (upd (upd se en (nI 0)) (en + 1) (nI 0)) (upd (upd ju b1 (nI (en + 1))) en (nI (en + 1 + 1))) (upd op (ob - 1) (nI en)) (en + 1 + 1) sm (ob - 1) be af pl rf rp rs ra rb rl ++ wO o cJ g) 441 rfl (m_endT n1 h0 ho6 t9 t5 t10) gL_law_X5_end rfl (by decide +kernel) rfl ⟨(Nat.le_of_ble_eq_true rfl), (Nat.le_of_ble_eq_true rfl)⟩ rfl (Nat.le_of_ble_eq_true rfl) rfl rfl rfl dL_law_438 hcs rfl rfl ?_
      refine v_w (w' := wM bd cI cZ le la kd fs sc (upd mi n1 (nI sm)) (upd bh n1 (nI sm)) sm oo ie (ob - 1) mp rf rp rs (nI 0) mc no lf he pi ot bf ar md ++ (wC ad cI cZ tg fn (upd (upd ki en (nI 5)) (en + 1) (nI 6)) (upd (upd nu en (nI n1)) (en + 1) (nI n1)) (upd (upd fi en (nI 0)) (en + 1) (nI 0)) (upd (upd se en (nI 0)) (en + 1) (nI 0)) (upd (upd ju b1 (nI (en + 1))) en (nI (en + 1 + 1))) (upd op (ob - 1) (nI en)) (en + 1 + 1) sm (ob - 1) be af pl rf rp rs ra rb rl ++ wO o cJ g)) rfl ?_
      refine v_st (st' := [.int (bI true), .int (bI true)]) rfl ?_
      refine v_icmp_eq 665 444 rfl dL_law_441 (by decide) (fun _ => ?_) (fun q => absurd rfl q)
      refine v_widen (Nat.le_succ _) (Nat.le_add_right _ 6) ?_
      exact T tg fn (upd (upd ki en (nI 5)) (en + 1) (nI 6)) (upd (upd nu en (nI n1)) (en + 1) (nI n1)) (upd (upd fi en (nI 0)) (en + 1) (nI 0)) (upd (upd se en (nI 0)) (en + 1) (nI 0)) (upd (upd ju b1 (nI (en + 1))) en (nI (en + 1 + 1))) (upd op (ob - 1) (nI en)) (en + 1 + 1) sm (ob - 1) be af pl rf rp rs ra rb rl le la kd fs sc (upd mi n1 (nI sm)) (upd bh n1 (nI sm)) oo ie mp (nI 0) mc no lf he pi ot bf ar md g ⟨⟨tn, fb, htb⟩, hPR.endI b1 n1 r1 t1 t2 t4 t5, hBe, hCh, hLf, hno⟩
    · skip
      refine v_aload_n 434 rfl dL_law_433 rfl rfl ?_
      refine v_callV (n := 0) (q0 := 0) (ci := 4) (C := RX4) (As := []) (wM bd cI cZ le la kd fs sc mi bh sm oo ie ob mp rf rp rs mt mc no lf he pi ot bf ar md) (wC ad cI cZ tg fn ki nu fi se ju op en sm ob be af pl rf rp rs ra rb rl) (wC ad cI cZ tg fn (upd ki en (nI 6)) (upd nu en (nI n1)) (upd fi en (nI 0)) (upd se en (nI 0)) (upd ju b1 (nI (en + 1))) op (en + 1) sm (ob - 1) be af pl rf rp rs ra rb rl) (wO o cJ g) 437 rfl (c_endE b1 (nI n1) h0 ho6 t8 t7 t11 t2 t4) gL_law_X4_end rfl (by decide +kernel) rfl ⟨(Nat.le_of_ble_eq_true rfl), (Nat.le_of_ble_eq_true rfl)⟩ rfl (Nat.le_of_ble_eq_true rfl) rfl rfl rfl dL_law_434 hcs rfl rfl ?_
      refine v_w (w' := wM bd cI cZ le la kd fs sc mi bh sm oo ie ob mp rf rp rs mt mc no lf he pi ot bf ar md ++ (wC ad cI cZ tg fn (upd ki en (nI 6)) (upd nu en (nI n1)) (upd fi en (nI 0)) (upd se en (nI 0)) (upd ju b1 (nI (en + 1))) op (en + 1) sm (ob - 1) be af pl rf rp rs ra rb rl ++ wO o cJ g)) rfl ?_
      refine v_st (st' := [.int (bI true)]) rfl ?_
      refine v_aload_n 438 rfl dL_law_437 rfl rfl ?_
      refine v_callV (n := 0) (q0 := 0) (ci := 5) (C := RX5) (As := []) ([]) (wM bd cI cZ le la kd fs sc mi bh sm oo ie ob mp rf rp rs mt mc no lf he pi ot bf ar md) (wM bd cI cZ le la kd fs sc mi (upd bh n1 (nI sm)) sm oo ie (ob - 1) mp rf rp rs (nI 0) mc no lf he pi ot bf ar md) (wC ad cI cZ tg fn (upd ki en (nI 6)) (upd nu en (nI n1)) (upd fi en (nI 0)) (upd se en (nI 0)) (upd ju b1 (nI (en + 1))) op (en + 1) sm (ob - 1) be af pl rf rp rs ra rb rl ++ wO o cJ g) 441 rfl (m_endE n1 h0 ho6 t9 t5 t10) gL_law_X5_end rfl (by decide +kernel) rfl ⟨(Nat.le_of_ble_eq_true rfl), (Nat.le_of_ble_eq_true rfl)⟩ rfl (Nat.le_of_ble_eq_true rfl) rfl rfl rfl dL_law_438 hcs rfl rfl ?_
      refine v_w (w' := wM bd cI cZ le la kd fs sc mi (upd bh n1 (nI sm)) sm oo ie (ob - 1) mp rf rp rs (nI 0) mc no lf he pi ot bf ar md ++ (wC ad cI cZ tg fn (upd ki en (nI 6)) (upd nu en (nI n1)) (upd fi en (nI 0)) (upd se en (nI 0)) (upd ju b1 (nI (en + 1))) op (en + 1) sm (ob - 1) be af pl rf rp rs ra rb rl ++ wO o cJ g)) rfl ?_
      refine v_st (st' := [.int (bI true), .int (bI true)]) rfl ?_
      refine v_icmp_eq 665 444 rfl dL_law_441 (by decide) (fun _ => ?_) (fun q => absurd rfl q)
      refine v_widen (Nat.le_succ _) (Nat.le_add_right _ 6) ?_
      exact T tg fn (upd ki en (nI 6)) (upd nu en (nI n1)) (upd fi en (nI 0)) (upd se en (nI 0)) (upd ju b1 (nI (en + 1))) op (en + 1) sm (ob - 1) be af pl rf rp rs ra rb rl le la kd fs sc mi (upd bh n1 (nI sm)) oo ie mp (nI 0) mc no lf he pi ot bf ar md g ⟨⟨tn, fb, htb⟩, hPR.endE b1 n1 r1 t1 t2 t4 t5, hBe, hCh, hLf, hno⟩
    · skip
      refine v_aload_n 434 rfl dL_law_433 rfl rfl ?_
      refine v_callV (n := 0) (q0 := 0) (ci := 4) (C := RX4) (As := []) (wM bd cI cZ le la kd fs sc mi bh sm oo ie ob mp rf rp rs mt mc no lf he pi ot bf ar md) (wC ad cI cZ tg fn ki nu fi se ju op en sm ob be af pl rf rp rs ra rb rl) (wC ad cI cZ tg fn (upd ki en (nI 8)) (upd nu en (nI n1)) (upd fi en (nI 0)) (upd se en (nI 0)) (upd (upd ju b1 (nI (en + 1))) en (nI b1)) op (en + 1) sm (ob - 1) be af pl rf rp rs ra rb rl) (wO o cJ g) 437 rfl (c_endW b1 (nI n1) h0 ho6 t8 t7 t11 t2 t4) gL_law_X4_end rfl (by decide +kernel) rfl ⟨(Nat.le_of_ble_eq_true rfl), (Nat.le_of_ble_eq_true rfl)⟩ rfl (Nat.le_of_ble_eq_true rfl) rfl rfl rfl dL_law_434 hcs rfl rfl ?_
      refine v_w (w' := wM bd cI cZ le la kd fs sc mi bh sm oo ie ob mp rf rp rs mt mc no lf he pi ot bf ar md ++ (wC ad cI cZ tg fn (upd ki en (nI 8)) (upd nu en (nI n1)) (upd fi en (nI 0)) (upd se en (nI 0)) (upd (upd ju b1 (nI (en + 1))) en (nI b1)) op (en + 1) sm (ob - 1) be af pl rf rp rs ra rb rl ++ wO o cJ g)) rfl ?_
      refine v_st (st' := [.int (bI true)]) rfl ?_
      refine v_aload_n 438 rfl dL_law_437 rfl rfl ?_
      refine v_callV (n := 0) (q0 := 0) (ci := 5) (C := RX5) (As := []) ([]) (wM bd cI cZ le la kd fs sc mi bh sm oo ie ob mp rf rp rs mt mc no lf he pi ot bf ar md) (wM bd cI cZ le la kd fs sc (upd mi n1 (nI sm)) (upd bh n1 (nI sm)) sm oo ie (ob - 1) mp rf rp rs (nI 0) mc no lf he pi ot bf ar md) (wC ad cI cZ tg fn (upd ki en (nI 8)) (upd nu en (nI n1)) (upd fi en (nI 0)) (upd se en (nI 0)) (upd (upd ju b1 (nI (en + 1))) en (nI b1)) op (en + 1) sm (ob - 1) be af pl rf rp rs ra rb rl ++ wO o cJ g) 441 rfl (m_endT n1 h0 ho6 t9 t5 t10) gL_law_X5_end rfl (by decide +kernel) rfl ⟨(Nat.le_of_ble_eq_true rfl), (Nat.le_of_ble_eq_true rfl)⟩ rfl (Nat.le_of_ble_eq_true rfl) rfl rfl rfl dL_law_438 hcs rfl rfl ?_
      refine v_w (w' := wM bd cI cZ le la kd fs sc (upd mi n1 (nI sm)) (upd bh n1 (nI sm)) sm oo ie (ob - 1) mp rf rp rs (nI 0) mc no lf he pi ot bf ar md ++ (wC ad cI cZ tg fn (upd ki en (nI 8)) (upd nu en (nI n1)) (upd fi en (nI 0)) (upd se en (nI 0)) (upd (upd ju b1 (nI (en + 1))) en (nI b1)) op (en + 1) sm (ob - 1) be af pl rf rp rs ra rb rl ++ wO o cJ g)) rfl ?_
      refine v_st (st' := [.int (bI true), .int (bI true)]) rfl ?_
      refine v_icmp_eq 665 444 rfl dL_law_441 (by decide) (fun _ => ?_) (fun q => absurd rfl q)
      refine v_widen (Nat.le_succ _) (Nat.le_add_right _ 6) ?_
      exact T tg fn (upd ki en (nI 8)) (upd nu en (nI n1)) (upd fi en (nI 0)) (upd se en (nI 0)) (upd (upd ju b1 (nI (en + 1))) en (nI b1)) op (en + 1) sm (ob - 1) be af pl rf rp rs ra rb rl le la kd fs sc (upd mi n1 (nI sm)) (upd bh n1 (nI sm)) oo ie mp (nI 0) mc no lf he pi ot bf ar md g ⟨⟨tn, fb, htb⟩, (hPR.endW b1 n1 r1 t1 t2 t4 t5).mid t5 t6, hBe, hCh, hLf, hno⟩
set_option maxRecDepth 100000 in
set_option maxHeartbeats 4000000 in
theorem k_clear {D : va_G} {cI cZ cJ : ClassId} {l : Launch} {b L : Nat} {xs : Nat → Int32} {sa : Nat → Nat} {nm : String} {ad bd : Nat → Nat} {o : Nat} (hlT : l.stackTraces = false) (j : Nat) (hj : 5 * j + 5 ≤ L) (hL : L ≤ 2560) (T : LHd (xLw D cI cZ cJ l b L xs sa) (kLw nm) (33 + j + 1) (1375 + 6 * j + 6) 665 ad bd cI cZ cJ o (lvj j b (ad 0) (bd 0) o)) : LHd (xLw D cI cZ cJ l b L xs sa) (kLw nm) (33 + j) (1375 + 6 * j) 446 ad bd cI cZ cJ o (lvj j b (ad 0) (bd 0) o) := by
  intro tg fn ki nu fi se ju op en sm ob be af pl rf rp rs ra rb rl le la kd fs sc mi bh oo ie mp mt mc no lf he pi ot bf ar md g hR
  obtain ⟨⟨tn, fb, htb⟩, hPR, hBe, hCh, hLf, hno⟩ := hR
  have hcs : 33 + j ≤ room_1.cells ∧ 1375 + 6 * j ≤ room_1.slots := ⟨by show 33 + j ≤ 1060; omega, by show 1375 + 6 * j ≤ 9585; omega⟩
  obtain ⟨hs40, ho6, hen, hen1⟩ := hPR.b
  refine v_aload_n 447 rfl dL_law_446 rfl rfl ?_
  refine v_callV (n := 0) (q0 := 0) (ci := 4) (C := RX4) (As := []) (wM bd cI cZ le la kd fs sc mi bh sm oo ie ob mp rf rp rs mt mc no lf he pi ot bf ar md) (wC ad cI cZ tg fn ki nu fi se ju op en sm ob be af pl rf rp rs ra rb rl) (wC ad cI cZ tg fn ki nu fi se ju op 0 0 0 be af pl rf rp rs ra rb rl) (wO o cJ g) 450 rfl (c_clear) gL_law_X4_clear rfl (by decide +kernel) rfl ⟨(Nat.le_of_ble_eq_true rfl), (Nat.le_of_ble_eq_true rfl)⟩ rfl (Nat.le_of_ble_eq_true rfl) rfl rfl rfl dL_law_447 hcs rfl rfl ?_
  refine v_w (w' := wM bd cI cZ le la kd fs sc mi bh sm oo ie ob mp rf rp rs mt mc no lf he pi ot bf ar md ++ (wC ad cI cZ tg fn ki nu fi se ju op 0 0 0 be af pl rf rp rs ra rb rl ++ wO o cJ g)) rfl ?_
  refine v_st (st' := []) rfl ?_
  refine v_aload_n 451 rfl dL_law_450 rfl rfl ?_
  refine v_callV (n := 0) (q0 := 0) (ci := 5) (C := RX5) (As := []) ([]) (wM bd cI cZ le la kd fs sc mi bh sm oo ie ob mp rf rp rs mt mc no lf he pi ot bf ar md) (wM bd cI cZ le la kd fs sc mi bh 0 oo ie 0 mp rf rp rs (nI 0) mc no lf he pi ot bf ar md) (wC ad cI cZ tg fn ki nu fi se ju op 0 0 0 be af pl rf rp rs ra rb rl ++ wO o cJ g) 454 rfl (m_clear) gL_law_X5_clear rfl (by decide +kernel) rfl ⟨(Nat.le_of_ble_eq_true rfl), (Nat.le_of_ble_eq_true rfl)⟩ rfl (Nat.le_of_ble_eq_true rfl) rfl rfl rfl dL_law_451 hcs rfl rfl ?_
  refine v_w (w' := wM bd cI cZ le la kd fs sc mi bh 0 oo ie 0 mp rf rp rs (nI 0) mc no lf he pi ot bf ar md ++ (wC ad cI cZ tg fn ki nu fi se ju op 0 0 0 be af pl rf rp rs ra rb rl ++ wO o cJ g)) rfl ?_
  refine v_st (st' := []) rfl ?_
  refine v_goto 665 dL_law_454 (by decide) ?_
  refine v_widen (Nat.le_succ _) (Nat.le_add_right _ 6) ?_
  exact T tg fn ki nu fi se ju op 0 0 0 be af pl rf rp rs ra rb rl le la kd fs sc mi bh oo ie mp (nI 0) mc no lf he pi ot bf ar md g ⟨⟨tn, fb, htb⟩, hPR.clear, hBe, hCh, hLf, hno⟩
set_option maxRecDepth 100000 in
set_option maxHeartbeats 4000000 in
theorem k_size {D : va_G} {cI cZ cJ : ClassId} {l : Launch} {b L : Nat} {xs : Nat → Int32} {sa : Nat → Nat} {nm : String} {ad bd : Nat → Nat} {o : Nat} (hlT : l.stackTraces = false) (j : Nat) (hj : 5 * j + 5 ≤ L) (hL : L ≤ 2560) (T : LHd (xLw D cI cZ cJ l b L xs sa) (kLw nm) (33 + j + 1) (1375 + 6 * j + 6) 665 ad bd cI cZ cJ o (lvj j b (ad 0) (bd 0) o)) : LHd (xLw D cI cZ cJ l b L xs sa) (kLw nm) (33 + j) (1375 + 6 * j) 457 ad bd cI cZ cJ o (lvj j b (ad 0) (bd 0) o) := by
  intro tg fn ki nu fi se ju op en sm ob be af pl rf rp rs ra rb rl le la kd fs sc mi bh oo ie mp mt mc no lf he pi ot bf ar md g hR
  obtain ⟨⟨tn, fb, htb⟩, hPR, hBe, hCh, hLf, hno⟩ := hR
  have hcs : 33 + j ≤ room_1.cells ∧ 1375 + 6 * j ≤ room_1.slots := ⟨by show 33 + j ≤ 1060; omega, by show 1375 + 6 * j ≤ 9585; omega⟩
  obtain ⟨hs40, ho6, hen, hen1⟩ := hPR.b
  refine v_aload_n 458 rfl dL_law_457 rfl rfl ?_
  refine v_callV (n := 0) (q0 := 0) (ci := 4) (C := RX4) (As := []) (wM bd cI cZ le la kd fs sc mi bh sm oo ie ob mp rf rp rs mt mc no lf he pi ot bf ar md) (wC ad cI cZ tg fn ki nu fi se ju op en sm ob be af pl rf rp rs ra rb rl) (wC ad cI cZ tg fn ki nu fi se ju op en sm ob be af pl rf rp rs ra rb rl) (wO o cJ g) 461 rfl (c_size) gL_law_X4_size rfl (by decide +kernel) rfl ⟨(Nat.le_of_ble_eq_true rfl), (Nat.le_of_ble_eq_true rfl)⟩ rfl (Nat.le_of_ble_eq_true rfl) rfl rfl rfl dL_law_458 hcs rfl rfl ?_
  refine v_w (w' := wM bd cI cZ le la kd fs sc mi bh sm oo ie ob mp rf rp rs mt mc no lf he pi ot bf ar md ++ (wC ad cI cZ tg fn ki nu fi se ju op en sm ob be af pl rf rp rs ra rb rl ++ wO o cJ g)) rfl ?_
  refine v_st (st' := [.int (nI sm)]) rfl ?_
  refine v_aload_n 462 rfl dL_law_461 rfl rfl ?_
  refine v_callV (n := 0) (q0 := 0) (ci := 5) (C := RX5) (As := []) ([]) (wM bd cI cZ le la kd fs sc mi bh sm oo ie ob mp rf rp rs mt mc no lf he pi ot bf ar md) (wM bd cI cZ le la kd fs sc mi bh sm oo ie ob mp rf rp rs (nI 0) mc no lf he pi ot bf ar md) (wC ad cI cZ tg fn ki nu fi se ju op en sm ob be af pl rf rp rs ra rb rl ++ wO o cJ g) 465 rfl (m_size) gL_law_X5_size rfl (by decide +kernel) rfl ⟨(Nat.le_of_ble_eq_true rfl), (Nat.le_of_ble_eq_true rfl)⟩ rfl (Nat.le_of_ble_eq_true rfl) rfl rfl rfl dL_law_462 hcs rfl rfl ?_
  refine v_w (w' := wM bd cI cZ le la kd fs sc mi bh sm oo ie ob mp rf rp rs (nI 0) mc no lf he pi ot bf ar md ++ (wC ad cI cZ tg fn ki nu fi se ju op en sm ob be af pl rf rp rs ra rb rl ++ wO o cJ g)) rfl ?_
  refine v_st (st' := [.int (nI sm), .int (nI sm)]) rfl ?_
  refine v_icmp_eq 665 468 rfl dL_law_465 (by decide) (fun _ => ?_) (fun q => absurd rfl q)
  refine v_widen (Nat.le_succ _) (Nat.le_add_right _ 6) ?_
  exact T tg fn ki nu fi se ju op en sm ob be af pl rf rp rs ra rb rl le la kd fs sc mi bh oo ie mp (nI 0) mc no lf he pi ot bf ar md g ⟨⟨tn, fb, htb⟩, hPR, hBe, hCh, hLf, hno⟩
set_option maxRecDepth 100000 in
set_option maxHeartbeats 4000000 in
theorem k_check {D : va_G} {cI cZ cJ : ClassId} {l : Launch} {b L : Nat} {xs : Nat → Int32} {sa : Nat → Nat} {nm : String} {ad bd : Nat → Nat} {o : Nat} (hlT : l.stackTraces = false) (j : Nat) (hj : 5 * j + 5 ≤ L) (hL : L ≤ 2560) (T : LHd (xLw D cI cZ cJ l b L xs sa) (kLw nm) (33 + j + 1) (1375 + 6 * j + 6) 665 ad bd cI cZ cJ o (lvj j b (ad 0) (bd 0) o)) : LHd (xLw D cI cZ cJ l b L xs sa) (kLw nm) (33 + j) (1375 + 6 * j) 470 ad bd cI cZ cJ o (lvj j b (ad 0) (bd 0) o) := by
  intro tg fn ki nu fi se ju op en sm ob be af pl rf rp rs ra rb rl le la kd fs sc mi bh oo ie mp mt mc no lf he pi ot bf ar md g hR
  obtain ⟨⟨tn, fb, htb⟩, hPR, hBe, hCh, hLf, hno⟩ := hR
  have hcs : 33 + j ≤ room_1.cells ∧ 1375 + 6 * j ≤ room_1.slots := ⟨by show 33 + j ≤ 1060; omega, by show 1375 + 6 * j ≤ 9585; omega⟩
  obtain ⟨hs40, ho6, hen, hen1⟩ := hPR.b
  rcases Nat.eq_zero_or_pos ob with h0 | h0
  · skip
    refine v_aload_n 471 rfl dL_law_470 rfl rfl ?_
    refine v_callV (n := 0) (q0 := 0) (ci := 4) (C := RX4) (As := []) (wM bd cI cZ le la kd fs sc mi bh sm oo ie ob mp rf rp rs mt mc no lf he pi ot bf ar md) (wC ad cI cZ tg fn ki nu fi se ju op en sm ob be af pl rf rp rs ra rb rl) (wC ad cI cZ tg fn ki nu fi se ju op en sm ob ((crun tn fb ki nu fi se sm en 0 0 (fillF be 40 (-1)) af).2.2.1) ((crun tn fb ki nu fi se sm en 0 0 (fillF be 40 (-1)) af).2.2.2) ((crun tn fb ki nu fi se sm en 0 0 (fillF be 40 (-1)) af).2.1) rf rp rs ra rb rl) (wO o cJ g) 474 rfl (c_chk tn fb htb hPR h0) gL_law_X4_check rfl (by decide +kernel) rfl ⟨(Nat.le_of_ble_eq_true rfl), (Nat.le_of_ble_eq_true rfl)⟩ rfl (Nat.le_of_ble_eq_true rfl) rfl rfl rfl dL_law_471 hcs rfl rfl ?_
    refine v_w (w' := wM bd cI cZ le la kd fs sc mi bh sm oo ie ob mp rf rp rs mt mc no lf he pi ot bf ar md ++ (wC ad cI cZ tg fn ki nu fi se ju op en sm ob ((crun tn fb ki nu fi se sm en 0 0 (fillF be 40 (-1)) af).2.2.1) ((crun tn fb ki nu fi se sm en 0 0 (fillF be 40 (-1)) af).2.2.2) ((crun tn fb ki nu fi se sm en 0 0 (fillF be 40 (-1)) af).2.1) rf rp rs ra rb rl ++ wO o cJ g)) rfl ?_
    refine v_st (st' := [.int (nI (crun tn fb ki nu fi se sm en 0 0 (fillF be 40 (-1)) af).1)]) rfl ?_
    refine v_aload_n 475 rfl dL_law_474 rfl rfl ?_
    refine v_callVE (n := 0) (q0 := 0) (ci := 5) (C := RX5) (As := []) ([]) (wM bd cI cZ le la kd fs sc mi bh sm oo ie ob mp rf rp rs mt mc no lf he pi ot bf ar md) (wC ad cI cZ tg fn ki nu fi se ju op en sm ob ((crun tn fb ki nu fi se sm en 0 0 (fillF be 40 (-1)) af).2.2.1) ((crun tn fb ki nu fi se sm en 0 0 (fillF be 40 (-1)) af).2.2.2) ((crun tn fb ki nu fi se sm en 0 0 (fillF be 40 (-1)) af).2.1) rf rp rs ra rb rl ++ wO o cJ g) 478 rfl (m_chk (be := be) (af := af) tn fb htb hPR h0 hno) gL_law_X5_check rfl (by decide +kernel) rfl ⟨(Nat.le_of_ble_eq_true rfl), (Nat.le_of_ble_eq_true rfl)⟩ rfl (Nat.le_of_ble_eq_true rfl) rfl rfl rfl dL_law_475 hcs (by rintro _ _ ⟨rfl, he', no', pi', ot', bf', ar', md', k1, k2, rfl⟩; rfl) rfl ?_
    rintro _ _ ⟨rfl, he', no', pi', ot', bf', ar', md', k1, k2, rfl⟩
    refine v_w (w' := wM bd cI cZ le la kd fs sc mi bh sm oo ie ob ((crun tn fb ki nu fi se sm en 0 0 (fillF be 40 (-1)) af).2.1) rf rp rs (nI 0) (nI 1) no' lf he' pi' ot' bf' ar' md' ++ (wC ad cI cZ tg fn ki nu fi se ju op en sm ob ((crun tn fb ki nu fi se sm en 0 0 (fillF be 40 (-1)) af).2.2.1) ((crun tn fb ki nu fi se sm en 0 0 (fillF be 40 (-1)) af).2.2.2) ((crun tn fb ki nu fi se sm en 0 0 (fillF be 40 (-1)) af).2.1) rf rp rs ra rb rl ++ wO o cJ g)) rfl ?_
    refine v_st (st' := [.int (nI (crun tn fb ki nu fi se sm en 0 0 (fillF be 40 (-1)) af).1), .int (nI (crun tn fb ki nu fi se sm en 0 0 (fillF be 40 (-1)) af).1)]) rfl ?_
    refine v_icmp_eq 665 481 rfl dL_law_478 (by decide) (fun _ => ?_) (fun q => absurd rfl q)
    refine v_widen (Nat.le_succ _) (Nat.le_add_right _ 6) ?_
    exact T tg fn ki nu fi se ju op en sm ob ((crun tn fb ki nu fi se sm en 0 0 (fillF be 40 (-1)) af).2.2.1) ((crun tn fb ki nu fi se sm en 0 0 (fillF be 40 (-1)) af).2.2.2) ((crun tn fb ki nu fi se sm en 0 0 (fillF be 40 (-1)) af).2.1) rf rp rs ra rb rl le la kd fs sc mi bh oo ie ((crun tn fb ki nu fi se sm en 0 0 (fillF be 40 (-1)) af).2.1) (nI 0) (nI 1) no' lf he' pi' ot' bf' ar' md' g ⟨⟨tn, fb, htb⟩, hPR, c_chkB tn fb htb hPR h0, Or.inr ⟨rfl, rfl, k1⟩, hLf, k2⟩
  · skip
    refine v_aload_n 471 rfl dL_law_470 rfl rfl ?_
    refine v_callV (n := 0) (q0 := 0) (ci := 4) (C := RX4) (As := []) (wM bd cI cZ le la kd fs sc mi bh sm oo ie ob mp rf rp rs mt mc no lf he pi ot bf ar md) (wC ad cI cZ tg fn ki nu fi se ju op en sm ob be af pl rf rp rs ra rb rl) (wC ad cI cZ tg fn ki nu fi se ju op en sm ob (fillF be 40 (-1)) af (nI sm) rf rp rs ra rb rl) (wO o cJ g) 474 rfl (c_check8 h0 ho6) gL_law_X4_check rfl (by decide +kernel) rfl ⟨(Nat.le_of_ble_eq_true rfl), (Nat.le_of_ble_eq_true rfl)⟩ rfl (Nat.le_of_ble_eq_true rfl) rfl rfl rfl dL_law_471 hcs rfl rfl ?_
    refine v_w (w' := wM bd cI cZ le la kd fs sc mi bh sm oo ie ob mp rf rp rs mt mc no lf he pi ot bf ar md ++ (wC ad cI cZ tg fn ki nu fi se ju op en sm ob (fillF be 40 (-1)) af (nI sm) rf rp rs ra rb rl ++ wO o cJ g)) rfl ?_
    refine v_st (st' := [.int (nI 8)]) rfl ?_
    refine v_aload_n 475 rfl dL_law_474 rfl rfl ?_
    refine v_callVE (n := 0) (q0 := 0) (ci := 5) (C := RX5) (As := []) ([]) (wM bd cI cZ le la kd fs sc mi bh sm oo ie ob mp rf rp rs mt mc no lf he pi ot bf ar md) (wC ad cI cZ tg fn ki nu fi se ju op en sm ob (fillF be 40 (-1)) af (nI sm) rf rp rs ra rb rl ++ wO o cJ g) 478 rfl (m_chk8 h0 ho6) gL_law_X5_check rfl (by decide +kernel) rfl ⟨(Nat.le_of_ble_eq_true rfl), (Nat.le_of_ble_eq_true rfl)⟩ rfl (Nat.le_of_ble_eq_true rfl) rfl rfl rfl dL_law_475 hcs (by rintro _ _ ⟨rfl, rfl⟩; rfl) rfl ?_
    rintro _ _ ⟨rfl, rfl⟩
    refine v_w (w' := wM bd cI cZ le la kd fs sc mi bh sm oo ie ob (nI sm) rf rp rs (nI 0) (nI 1) no lf (fillF he 160 (-2)) pi ot bf ar md ++ (wC ad cI cZ tg fn ki nu fi se ju op en sm ob (fillF be 40 (-1)) af (nI sm) rf rp rs ra rb rl ++ wO o cJ g)) rfl ?_
    refine v_st (st' := [.int (nI 8), .int (nI 8)]) rfl ?_
    refine v_icmp_eq 665 481 rfl dL_law_478 (by decide) (fun _ => ?_) (fun q => absurd rfl q)
    refine v_widen (Nat.le_succ _) (Nat.le_add_right _ 6) ?_
    exact T tg fn ki nu fi se ju op en sm ob (fillF be 40 (-1)) af (nI sm) rf rp rs ra rb rl le la kd fs sc mi bh oo ie (nI sm) (nI 0) (nI 1) no lf (fillF he 160 (-2)) pi ot bf ar md g ⟨⟨tn, fb, htb⟩, hPR, BeOk.fill, Or.inr ⟨rfl, rfl, HeR.init⟩, hLf, hno⟩
set_option maxRecDepth 100000 in
set_option maxHeartbeats 4000000 in
theorem k_faultAt {D : va_G} {cI cZ cJ : ClassId} {l : Launch} {b L : Nat} {xs : Nat → Int32} {sa : Nat → Nat} {nm : String} {ad bd : Nat → Nat} {o : Nat} (hlT : l.stackTraces = false) (j : Nat) (hj : 5 * j + 5 ≤ L) (hL : L ≤ 2560) (T : LHd (xLw D cI cZ cJ l b L xs sa) (kLw nm) (33 + j + 1) (1375 + 6 * j + 6) 665 ad bd cI cZ cJ o (lvj j b (ad 0) (bd 0) o)) : LHd (xLw D cI cZ cJ l b L xs sa) (kLw nm) (33 + j) (1375 + 6 * j) 483 ad bd cI cZ cJ o (lvj j b (ad 0) (bd 0) o) := by
  intro tg fn ki nu fi se ju op en sm ob be af pl rf rp rs ra rb rl le la kd fs sc mi bh oo ie mp mt mc no lf he pi ot bf ar md g hR
  obtain ⟨⟨tn, fb, htb⟩, hPR, hBe, hCh, hLf, hno⟩ := hR
  have hcs : 33 + j ≤ room_1.cells ∧ 1375 + 6 * j ≤ room_1.slots := ⟨by show 33 + j ≤ 1060; omega, by show 1375 + 6 * j ≤ 9585; omega⟩
  obtain ⟨hs40, ho6, hen, hen1⟩ := hPR.b
  rcases id hCh with ⟨h1, h2, h3⟩ | ⟨h1, h2, h3⟩
  · subst h2
    refine v_aload_n 484 rfl dL_law_483 rfl rfl ?_
    refine v_callV (n := 0) (q0 := 0) (ci := 4) (C := RX4) (As := []) (wM bd cI cZ le la kd fs sc mi bh sm oo ie ob mp rf rp rs mt mc no lf he pi ot bf ar md) (wC ad cI cZ tg fn ki nu fi se ju op en sm ob be af (-1) rf rp rs ra rb rl) (wC ad cI cZ tg fn ki nu fi se ju op en sm ob be af (-1) rf rp rs ra rb rl) (wO o cJ g) 487 rfl (c_faultAt) gL_law_X4_faultAt rfl (by decide +kernel) rfl ⟨(Nat.le_of_ble_eq_true rfl), (Nat.le_of_ble_eq_true rfl)⟩ rfl (Nat.le_of_ble_eq_true rfl) rfl rfl rfl dL_law_484 hcs rfl rfl ?_
    refine v_w (w' := wM bd cI cZ le la kd fs sc mi bh sm oo ie ob mp rf rp rs mt mc no lf he pi ot bf ar md ++ (wC ad cI cZ tg fn ki nu fi se ju op en sm ob be af (-1) rf rp rs ra rb rl ++ wO o cJ g)) rfl ?_
    refine v_st (st' := [.int (-1)]) rfl ?_
    refine v_aload_n 488 rfl dL_law_487 rfl rfl ?_
    refine v_callV (n := 0) (q0 := 0) (ci := 5) (C := RX5) (As := []) ([]) (wM bd cI cZ le la kd fs sc mi bh sm oo ie ob mp rf rp rs mt mc no lf he pi ot bf ar md) (wM bd cI cZ le la kd fs sc mi bh sm oo ie ob mp rf rp rs (nI 0) mc no lf he pi ot bf ar md) (wC ad cI cZ tg fn ki nu fi se ju op en sm ob be af (-1) rf rp rs ra rb rl ++ wO o cJ g) 491 rfl (m_faultAt0 h1) gL_law_X5_faultAt rfl (by decide +kernel) rfl ⟨(Nat.le_of_ble_eq_true rfl), (Nat.le_of_ble_eq_true rfl)⟩ rfl (Nat.le_of_ble_eq_true rfl) rfl rfl rfl dL_law_488 hcs rfl rfl ?_
    refine v_w (w' := wM bd cI cZ le la kd fs sc mi bh sm oo ie ob mp rf rp rs (nI 0) mc no lf he pi ot bf ar md ++ (wC ad cI cZ tg fn ki nu fi se ju op en sm ob be af (-1) rf rp rs ra rb rl ++ wO o cJ g)) rfl ?_
    refine v_st (st' := [.int (-1), .int (-1)]) rfl ?_
    refine v_icmp_eq 665 494 rfl dL_law_491 (by decide) (fun _ => ?_) (fun q => absurd rfl q)
    refine v_widen (Nat.le_succ _) (Nat.le_add_right _ 6) ?_
    exact T tg fn ki nu fi se ju op en sm ob be af (-1) rf rp rs ra rb rl le la kd fs sc mi bh oo ie mp (nI 0) mc no lf he pi ot bf ar md g ⟨⟨tn, fb, htb⟩, hPR, hBe, hCh, hLf, hno⟩
  · subst h2
    refine v_aload_n 484 rfl dL_law_483 rfl rfl ?_
    refine v_callV (n := 0) (q0 := 0) (ci := 4) (C := RX4) (As := []) (wM bd cI cZ le la kd fs sc mi bh sm oo ie ob mp rf rp rs mt mc no lf he pi ot bf ar md) (wC ad cI cZ tg fn ki nu fi se ju op en sm ob be af mp rf rp rs ra rb rl) (wC ad cI cZ tg fn ki nu fi se ju op en sm ob be af mp rf rp rs ra rb rl) (wO o cJ g) 487 rfl (c_faultAt) gL_law_X4_faultAt rfl (by decide +kernel) rfl ⟨(Nat.le_of_ble_eq_true rfl), (Nat.le_of_ble_eq_true rfl)⟩ rfl (Nat.le_of_ble_eq_true rfl) rfl rfl rfl dL_law_484 hcs rfl rfl ?_
    refine v_w (w' := wM bd cI cZ le la kd fs sc mi bh sm oo ie ob mp rf rp rs mt mc no lf he pi ot bf ar md ++ (wC ad cI cZ tg fn ki nu fi se ju op en sm ob be af mp rf rp rs ra rb rl ++ wO o cJ g)) rfl ?_
    refine v_st (st' := [.int (mp)]) rfl ?_
    refine v_aload_n 488 rfl dL_law_487 rfl rfl ?_
    refine v_callV (n := 0) (q0 := 0) (ci := 5) (C := RX5) (As := []) ([]) (wM bd cI cZ le la kd fs sc mi bh sm oo ie ob mp rf rp rs mt mc no lf he pi ot bf ar md) (wM bd cI cZ le la kd fs sc mi bh sm oo ie ob mp rf rp rs (nI 0) mc no lf he pi ot bf ar md) (wC ad cI cZ tg fn ki nu fi se ju op en sm ob be af mp rf rp rs ra rb rl ++ wO o cJ g) 491 rfl (m_faultAt1 h1) gL_law_X5_faultAt rfl (by decide +kernel) rfl ⟨(Nat.le_of_ble_eq_true rfl), (Nat.le_of_ble_eq_true rfl)⟩ rfl (Nat.le_of_ble_eq_true rfl) rfl rfl rfl dL_law_488 hcs rfl rfl ?_
    refine v_w (w' := wM bd cI cZ le la kd fs sc mi bh sm oo ie ob mp rf rp rs (nI 0) mc no lf he pi ot bf ar md ++ (wC ad cI cZ tg fn ki nu fi se ju op en sm ob be af mp rf rp rs ra rb rl ++ wO o cJ g)) rfl ?_
    refine v_st (st' := [.int (mp), .int (mp)]) rfl ?_
    refine v_icmp_eq 665 494 rfl dL_law_491 (by decide) (fun _ => ?_) (fun q => absurd rfl q)
    refine v_widen (Nat.le_succ _) (Nat.le_add_right _ 6) ?_
    exact T tg fn ki nu fi se ju op en sm ob be af mp rf rp rs ra rb rl le la kd fs sc mi bh oo ie mp (nI 0) mc no lf he pi ot bf ar md g ⟨⟨tn, fb, htb⟩, hPR, hBe, hCh, hLf, hno⟩
set_option maxRecDepth 100000 in
set_option maxHeartbeats 4000000 in
theorem k_held {D : va_G} {cI cZ cJ : ClassId} {l : Launch} {b L : Nat} {xs : Nat → Int32} {sa : Nat → Nat} {nm : String} {ad bd : Nat → Nat} {o : Nat} (hlT : l.stackTraces = false) (j : Nat) (hj : 5 * j + 5 ≤ L) (hL : L ≤ 2560) (T : LHd (xLw D cI cZ cJ l b L xs sa) (kLw nm) (33 + j + 1) (1375 + 6 * j + 6) 665 ad bd cI cZ cJ o (lvj j b (ad 0) (bd 0) o)) : LHd (xLw D cI cZ cJ l b L xs sa) (kLw nm) (33 + j) (1375 + 6 * j) 496 ad bd cI cZ cJ o (lvj j b (ad 0) (bd 0) o) := by
  intro tg fn ki nu fi se ju op en sm ob be af pl rf rp rs ra rb rl le la kd fs sc mi bh oo ie mp mt mc no lf he pi ot bf ar md g hR
  obtain ⟨⟨tn, fb, htb⟩, hPR, hBe, hCh, hLf, hno⟩ := hR
  have hcs : 33 + j ≤ room_1.cells ∧ 1375 + 6 * j ≤ room_1.slots := ⟨by show 33 + j ≤ 1060; omega, by show 1375 + 6 * j ≤ 9585; omega⟩
  obtain ⟨hs40, ho6, hen, hen1⟩ := hPR.b
  by_cases hi : bel (xs (5 * j + 1)) (nI 40) = true
  · obtain ⟨n, hn, en1⟩ := bel_t (by decide) hi
    rcases id hCh with ⟨h1, h2, h3⟩ | ⟨h1, h2, h3⟩
    · skip
      refine v_aload_n 497 rfl dL_law_496 rfl rfl ?_
      refine v_aload_n 498 rfl dL_law_497 rfl rfl ?_
      refine v_iload 500 rfl dL_law_498 rfl ?_
      refine v_iconst (v := nI 1) 501 rfl dL_law_500 (by decide) ?_
      refine v_iaddN (a := 5 * j) (b := 1) 502 rfl dL_law_501 ?_
      refine v_sld (i := 5 * j + 1) (v := nI n) 503 rfl dL_law_502 (by omega) (by omega) en1 ?_
      refine v_aload_n 504 rfl dL_law_503 rfl rfl ?_
      refine v_iload 506 rfl dL_law_504 rfl ?_
      refine v_iconst (v := nI 2) 507 rfl dL_law_506 (by decide) ?_
      refine v_iaddN (a := 5 * j) (b := 2) 508 rfl dL_law_507 ?_
      refine v_sld (i := 5 * j + 2) (v := xs (5 * j + 2)) 509 rfl dL_law_508 (by omega) (by omega) rfl ?_
      refine v_callV (n := 2) (q0 := 0) (ci := 4) (C := RX4) (As := [.int (nI n), .int (xs (5 * j + 2))]) (wM bd cI cZ le la kd fs sc mi bh sm oo ie ob mp rf rp rs mt mc no lf he pi ot bf ar md) (wC ad cI cZ tg fn ki nu fi se ju op en sm ob be af pl rf rp rs ra rb rl) (wC ad cI cZ tg fn ki nu fi se ju op en sm ob be af pl rf rp rs ra rb rl) (wO o cJ g) 512 rfl (c_heldM n _ hn (h3 n hn)) gL_law_X4_held rfl (by decide +kernel) rfl ⟨(Nat.le_of_ble_eq_true rfl), (Nat.le_of_ble_eq_true rfl)⟩ rfl (Nat.le_of_ble_eq_true rfl) rfl rfl rfl dL_law_509 hcs rfl rfl ?_
      refine v_w (w' := wM bd cI cZ le la kd fs sc mi bh sm oo ie ob mp rf rp rs mt mc no lf he pi ot bf ar md ++ (wC ad cI cZ tg fn ki nu fi se ju op en sm ob be af pl rf rp rs ra rb rl ++ wO o cJ g)) rfl ?_
      refine v_st (st' := [.int (-2)]) rfl ?_
      refine v_aload_n 513 rfl dL_law_512 rfl rfl ?_
      refine v_aload_n 514 rfl dL_law_513 rfl rfl ?_
      refine v_iload 516 rfl dL_law_514 rfl ?_
      refine v_iconst (v := nI 1) 517 rfl dL_law_516 (by decide) ?_
      refine v_iaddN (a := 5 * j) (b := 1) 518 rfl dL_law_517 ?_
      refine v_sld (i := 5 * j + 1) (v := nI n) 519 rfl dL_law_518 (by omega) (by omega) en1 ?_
      refine v_aload_n 520 rfl dL_law_519 rfl rfl ?_
      refine v_iload 522 rfl dL_law_520 rfl ?_
      refine v_iconst (v := nI 2) 523 rfl dL_law_522 (by decide) ?_
      refine v_iaddN (a := 5 * j) (b := 2) 524 rfl dL_law_523 ?_
      refine v_sld (i := 5 * j + 2) (v := xs (5 * j + 2)) 525 rfl dL_law_524 (by omega) (by omega) rfl ?_
      refine v_callV (n := 2) (q0 := 0) (ci := 5) (C := RX5) (As := [.int (nI n), .int (xs (5 * j + 2))]) ([]) (wM bd cI cZ le la kd fs sc mi bh sm oo ie ob mp rf rp rs mt mc no lf he pi ot bf ar md) (wM bd cI cZ le la kd fs sc mi bh sm oo ie ob mp rf rp rs (nI 0) mc no lf he pi ot bf ar md) (wC ad cI cZ tg fn ki nu fi se ju op en sm ob be af pl rf rp rs ra rb rl ++ wO o cJ g) 528 rfl (m_held0 _ _ h1) gL_law_X5_held rfl (by decide +kernel) rfl ⟨(Nat.le_of_ble_eq_true rfl), (Nat.le_of_ble_eq_true rfl)⟩ rfl (Nat.le_of_ble_eq_true rfl) rfl rfl rfl dL_law_525 hcs rfl rfl ?_
      refine v_w (w' := wM bd cI cZ le la kd fs sc mi bh sm oo ie ob mp rf rp rs (nI 0) mc no lf he pi ot bf ar md ++ (wC ad cI cZ tg fn ki nu fi se ju op en sm ob be af pl rf rp rs ra rb rl ++ wO o cJ g)) rfl ?_
      refine v_st (st' := [.int (-2), .int (-2)]) rfl ?_
      refine v_icmp_eq 665 531 rfl dL_law_528 (by decide) (fun _ => ?_) (fun q => absurd rfl q)
      refine v_widen (Nat.le_succ _) (Nat.le_add_right _ 6) ?_
      exact T tg fn ki nu fi se ju op en sm ob be af pl rf rp rs ra rb rl le la kd fs sc mi bh oo ie mp (nI 0) mc no lf he pi ot bf ar md g ⟨⟨tn, fb, htb⟩, hPR, hBe, hCh, hLf, hno⟩
    · by_cases hv : bel (xs (5 * j + 2)) (nI 4) = true
      · obtain ⟨v, hv, ev⟩ := bel_t (by decide) hv
        rcases hBe n hn with hB | ⟨A, hA, hB⟩
        · skip
          refine v_aload_n 497 rfl dL_law_496 rfl rfl ?_
          refine v_aload_n 498 rfl dL_law_497 rfl rfl ?_
          refine v_iload 500 rfl dL_law_498 rfl ?_
          refine v_iconst (v := nI 1) 501 rfl dL_law_500 (by decide) ?_
          refine v_iaddN (a := 5 * j) (b := 1) 502 rfl dL_law_501 ?_
          refine v_sld (i := 5 * j + 1) (v := nI n) 503 rfl dL_law_502 (by omega) (by omega) en1 ?_
          refine v_aload_n 504 rfl dL_law_503 rfl rfl ?_
          refine v_iload 506 rfl dL_law_504 rfl ?_
          refine v_iconst (v := nI 2) 507 rfl dL_law_506 (by decide) ?_
          refine v_iaddN (a := 5 * j) (b := 2) 508 rfl dL_law_507 ?_
          refine v_sld (i := 5 * j + 2) (v := nI v) 509 rfl dL_law_508 (by omega) (by omega) ev ?_
          refine v_callV (n := 2) (q0 := 0) (ci := 4) (C := RX4) (As := [.int (nI n), .int (nI v)]) (wM bd cI cZ le la kd fs sc mi bh sm oo ie ob mp rf rp rs mt mc no lf he pi ot bf ar md) (wC ad cI cZ tg fn ki nu fi se ju op en sm ob be af pl rf rp rs ra rb rl) (wC ad cI cZ tg fn ki nu fi se ju op en sm ob be af pl rf rp rs ra rb rl) (wO o cJ g) 512 rfl (c_heldM n _ hn hB) gL_law_X4_held rfl (by decide +kernel) rfl ⟨(Nat.le_of_ble_eq_true rfl), (Nat.le_of_ble_eq_true rfl)⟩ rfl (Nat.le_of_ble_eq_true rfl) rfl rfl rfl dL_law_509 hcs rfl rfl ?_
          refine v_w (w' := wM bd cI cZ le la kd fs sc mi bh sm oo ie ob mp rf rp rs mt mc no lf he pi ot bf ar md ++ (wC ad cI cZ tg fn ki nu fi se ju op en sm ob be af pl rf rp rs ra rb rl ++ wO o cJ g)) rfl ?_
          refine v_st (st' := [.int (-2)]) rfl ?_
          refine v_aload_n 513 rfl dL_law_512 rfl rfl ?_
          refine v_aload_n 514 rfl dL_law_513 rfl rfl ?_
          refine v_iload 516 rfl dL_law_514 rfl ?_
          refine v_iconst (v := nI 1) 517 rfl dL_law_516 (by decide) ?_
          refine v_iaddN (a := 5 * j) (b := 1) 518 rfl dL_law_517 ?_
          refine v_sld (i := 5 * j + 1) (v := nI n) 519 rfl dL_law_518 (by omega) (by omega) en1 ?_
          refine v_aload_n 520 rfl dL_law_519 rfl rfl ?_
          refine v_iload 522 rfl dL_law_520 rfl ?_
          refine v_iconst (v := nI 2) 523 rfl dL_law_522 (by decide) ?_
          refine v_iaddN (a := 5 * j) (b := 2) 524 rfl dL_law_523 ?_
          refine v_sld (i := 5 * j + 2) (v := nI v) 525 rfl dL_law_524 (by omega) (by omega) ev ?_
          refine v_callV (n := 2) (q0 := 0) (ci := 5) (C := RX5) (As := [.int (nI n), .int (nI v)]) ([]) (wM bd cI cZ le la kd fs sc mi bh sm oo ie ob mp rf rp rs mt mc no lf he pi ot bf ar md) (wM bd cI cZ le la kd fs sc mi bh sm oo ie ob mp rf rp rs (nI 0) mc no lf he pi ot bf ar md) (wC ad cI cZ tg fn ki nu fi se ju op en sm ob be af pl rf rp rs ra rb rl ++ wO o cJ g) 528 rfl (m_held n v (-2) h1 hn hv ((h3 n hn v hv).1 hB)) gL_law_X5_held rfl (by decide +kernel) rfl ⟨(Nat.le_of_ble_eq_true rfl), (Nat.le_of_ble_eq_true rfl)⟩ rfl (Nat.le_of_ble_eq_true rfl) rfl rfl rfl dL_law_525 hcs rfl rfl ?_
          refine v_w (w' := wM bd cI cZ le la kd fs sc mi bh sm oo ie ob mp rf rp rs (nI 0) mc no lf he pi ot bf ar md ++ (wC ad cI cZ tg fn ki nu fi se ju op en sm ob be af pl rf rp rs ra rb rl ++ wO o cJ g)) rfl ?_
          refine v_st (st' := [.int (-2), .int (-2)]) rfl ?_
          refine v_icmp_eq 665 531 rfl dL_law_528 (by decide) (fun _ => ?_) (fun q => absurd rfl q)
          refine v_widen (Nat.le_succ _) (Nat.le_add_right _ 6) ?_
          exact T tg fn ki nu fi se ju op en sm ob be af pl rf rp rs ra rb rl le la kd fs sc mi bh oo ie mp (nI 0) mc no lf he pi ot bf ar md g ⟨⟨tn, fb, htb⟩, hPR, hBe, hCh, hLf, hno⟩
        · skip
          refine v_aload_n 497 rfl dL_law_496 rfl rfl ?_
          refine v_aload_n 498 rfl dL_law_497 rfl rfl ?_
          refine v_iload 500 rfl dL_law_498 rfl ?_
          refine v_iconst (v := nI 1) 501 rfl dL_law_500 (by decide) ?_
          refine v_iaddN (a := 5 * j) (b := 1) 502 rfl dL_law_501 ?_
          refine v_sld (i := 5 * j + 1) (v := nI n) 503 rfl dL_law_502 (by omega) (by omega) en1 ?_
          refine v_aload_n 504 rfl dL_law_503 rfl rfl ?_
          refine v_iload 506 rfl dL_law_504 rfl ?_
          refine v_iconst (v := nI 2) 507 rfl dL_law_506 (by decide) ?_
          refine v_iaddN (a := 5 * j) (b := 2) 508 rfl dL_law_507 ?_
          refine v_sld (i := 5 * j + 2) (v := nI v) 509 rfl dL_law_508 (by omega) (by omega) ev ?_
          refine v_callV (n := 2) (q0 := 0) (ci := 4) (C := RX4) (As := [.int (nI n), .int (nI v)]) (wM bd cI cZ le la kd fs sc mi bh sm oo ie ob mp rf rp rs mt mc no lf he pi ot bf ar md) (wC ad cI cZ tg fn ki nu fi se ju op en sm ob be af pl rf rp rs ra rb rl) (wC ad cI cZ tg fn ki nu fi se ju op en sm ob be af pl rf rp rs ra rb rl) (wO o cJ g) 512 rfl (c_held n v A hn hv hA hB) gL_law_X4_held rfl (by decide +kernel) rfl ⟨(Nat.le_of_ble_eq_true rfl), (Nat.le_of_ble_eq_true rfl)⟩ rfl (Nat.le_of_ble_eq_true rfl) rfl rfl rfl dL_law_509 hcs rfl rfl ?_
          refine v_w (w' := wM bd cI cZ le la kd fs sc mi bh sm oo ie ob mp rf rp rs mt mc no lf he pi ot bf ar md ++ (wC ad cI cZ tg fn ki nu fi se ju op en sm ob be af pl rf rp rs ra rb rl ++ wO o cJ g)) rfl ?_
          refine v_st (st' := [.int (oI (hb A v))]) rfl ?_
          refine v_aload_n 513 rfl dL_law_512 rfl rfl ?_
          refine v_aload_n 514 rfl dL_law_513 rfl rfl ?_
          refine v_iload 516 rfl dL_law_514 rfl ?_
          refine v_iconst (v := nI 1) 517 rfl dL_law_516 (by decide) ?_
          refine v_iaddN (a := 5 * j) (b := 1) 518 rfl dL_law_517 ?_
          refine v_sld (i := 5 * j + 1) (v := nI n) 519 rfl dL_law_518 (by omega) (by omega) en1 ?_
          refine v_aload_n 520 rfl dL_law_519 rfl rfl ?_
          refine v_iload 522 rfl dL_law_520 rfl ?_
          refine v_iconst (v := nI 2) 523 rfl dL_law_522 (by decide) ?_
          refine v_iaddN (a := 5 * j) (b := 2) 524 rfl dL_law_523 ?_
          refine v_sld (i := 5 * j + 2) (v := nI v) 525 rfl dL_law_524 (by omega) (by omega) ev ?_
          refine v_callV (n := 2) (q0 := 0) (ci := 5) (C := RX5) (As := [.int (nI n), .int (nI v)]) ([]) (wM bd cI cZ le la kd fs sc mi bh sm oo ie ob mp rf rp rs mt mc no lf he pi ot bf ar md) (wM bd cI cZ le la kd fs sc mi bh sm oo ie ob mp rf rp rs (nI 0) mc no lf he pi ot bf ar md) (wC ad cI cZ tg fn ki nu fi se ju op en sm ob be af pl rf rp rs ra rb rl ++ wO o cJ g) 528 rfl (m_held n v (oI (hb A v)) h1 hn hv ((h3 n hn v hv).2 A hA hB)) gL_law_X5_held rfl (by decide +kernel) rfl ⟨(Nat.le_of_ble_eq_true rfl), (Nat.le_of_ble_eq_true rfl)⟩ rfl (Nat.le_of_ble_eq_true rfl) rfl rfl rfl dL_law_525 hcs rfl rfl ?_
          refine v_w (w' := wM bd cI cZ le la kd fs sc mi bh sm oo ie ob mp rf rp rs (nI 0) mc no lf he pi ot bf ar md ++ (wC ad cI cZ tg fn ki nu fi se ju op en sm ob be af pl rf rp rs ra rb rl ++ wO o cJ g)) rfl ?_
          refine v_st (st' := [.int (oI (hb A v)), .int (oI (hb A v))]) rfl ?_
          refine v_icmp_eq 665 531 rfl dL_law_528 (by decide) (fun _ => ?_) (fun q => absurd rfl q)
          refine v_widen (Nat.le_succ _) (Nat.le_add_right _ 6) ?_
          exact T tg fn ki nu fi se ju op en sm ob be af pl rf rp rs ra rb rl le la kd fs sc mi bh oo ie mp (nI 0) mc no lf he pi ot bf ar md g ⟨⟨tn, fb, htb⟩, hPR, hBe, hCh, hLf, hno⟩
      · have hv := (Bool.not_eq_true _).mp hv
        have hq : (bel (nI n) (nI 40) && bel (xs (5 * j + 2)) (nI 4)) = false := by rw [hv, Bool.and_false]
        rcases hBe n hn with hB | ⟨A, hA, hB⟩
        · skip
          refine v_aload_n 497 rfl dL_law_496 rfl rfl ?_
          refine v_aload_n 498 rfl dL_law_497 rfl rfl ?_
          refine v_iload 500 rfl dL_law_498 rfl ?_
          refine v_iconst (v := nI 1) 501 rfl dL_law_500 (by decide) ?_
          refine v_iaddN (a := 5 * j) (b := 1) 502 rfl dL_law_501 ?_
          refine v_sld (i := 5 * j + 1) (v := nI n) 503 rfl dL_law_502 (by omega) (by omega) en1 ?_
          refine v_aload_n 504 rfl dL_law_503 rfl rfl ?_
          refine v_iload 506 rfl dL_law_504 rfl ?_
          refine v_iconst (v := nI 2) 507 rfl dL_law_506 (by decide) ?_
          refine v_iaddN (a := 5 * j) (b := 2) 508 rfl dL_law_507 ?_
          refine v_sld (i := 5 * j + 2) (v := xs (5 * j + 2)) 509 rfl dL_law_508 (by omega) (by omega) rfl ?_
          refine v_callV (n := 2) (q0 := 0) (ci := 4) (C := RX4) (As := [.int (nI n), .int (xs (5 * j + 2))]) (wM bd cI cZ le la kd fs sc mi bh sm oo ie ob mp rf rp rs mt mc no lf he pi ot bf ar md) (wC ad cI cZ tg fn ki nu fi se ju op en sm ob be af pl rf rp rs ra rb rl) (wC ad cI cZ tg fn ki nu fi se ju op en sm ob be af pl rf rp rs ra rb rl) (wO o cJ g) 512 rfl (c_heldM n _ hn hB) gL_law_X4_held rfl (by decide +kernel) rfl ⟨(Nat.le_of_ble_eq_true rfl), (Nat.le_of_ble_eq_true rfl)⟩ rfl (Nat.le_of_ble_eq_true rfl) rfl rfl rfl dL_law_509 hcs rfl rfl ?_
          refine v_w (w' := wM bd cI cZ le la kd fs sc mi bh sm oo ie ob mp rf rp rs mt mc no lf he pi ot bf ar md ++ (wC ad cI cZ tg fn ki nu fi se ju op en sm ob be af pl rf rp rs ra rb rl ++ wO o cJ g)) rfl ?_
          refine v_st (st' := [.int (-2)]) rfl ?_
          refine v_aload_n 513 rfl dL_law_512 rfl rfl ?_
          refine v_aload_n 514 rfl dL_law_513 rfl rfl ?_
          refine v_iload 516 rfl dL_law_514 rfl ?_
          refine v_iconst (v := nI 1) 517 rfl dL_law_516 (by decide) ?_
          refine v_iaddN (a := 5 * j) (b := 1) 518 rfl dL_law_517 ?_
          refine v_sld (i := 5 * j + 1) (v := nI n) 519 rfl dL_law_518 (by omega) (by omega) en1 ?_
          refine v_aload_n 520 rfl dL_law_519 rfl rfl ?_
          refine v_iload 522 rfl dL_law_520 rfl ?_
          refine v_iconst (v := nI 2) 523 rfl dL_law_522 (by decide) ?_
          refine v_iaddN (a := 5 * j) (b := 2) 524 rfl dL_law_523 ?_
          refine v_sld (i := 5 * j + 2) (v := xs (5 * j + 2)) 525 rfl dL_law_524 (by omega) (by omega) rfl ?_
          refine v_callV (n := 2) (q0 := 0) (ci := 5) (C := RX5) (As := [.int (nI n), .int (xs (5 * j + 2))]) ([]) (wM bd cI cZ le la kd fs sc mi bh sm oo ie ob mp rf rp rs mt mc no lf he pi ot bf ar md) (wM bd cI cZ le la kd fs sc mi bh sm oo ie ob mp rf rp rs (nI 0) mc no lf he pi ot bf ar md) (wC ad cI cZ tg fn ki nu fi se ju op en sm ob be af pl rf rp rs ra rb rl ++ wO o cJ g) 528 rfl (m_heldNo _ _ h1 hq) gL_law_X5_held rfl (by decide +kernel) rfl ⟨(Nat.le_of_ble_eq_true rfl), (Nat.le_of_ble_eq_true rfl)⟩ rfl (Nat.le_of_ble_eq_true rfl) rfl rfl rfl dL_law_525 hcs rfl rfl ?_
          refine v_w (w' := wM bd cI cZ le la kd fs sc mi bh sm oo ie ob mp rf rp rs (nI 0) mc no lf he pi ot bf ar md ++ (wC ad cI cZ tg fn ki nu fi se ju op en sm ob be af pl rf rp rs ra rb rl ++ wO o cJ g)) rfl ?_
          refine v_st (st' := [.int (-2), .int (-2)]) rfl ?_
          refine v_icmp_eq 665 531 rfl dL_law_528 (by decide) (fun _ => ?_) (fun q => absurd rfl q)
          refine v_widen (Nat.le_succ _) (Nat.le_add_right _ 6) ?_
          exact T tg fn ki nu fi se ju op en sm ob be af pl rf rp rs ra rb rl le la kd fs sc mi bh oo ie mp (nI 0) mc no lf he pi ot bf ar md g ⟨⟨tn, fb, htb⟩, hPR, hBe, hCh, hLf, hno⟩
        · skip
          refine v_aload_n 497 rfl dL_law_496 rfl rfl ?_
          refine v_aload_n 498 rfl dL_law_497 rfl rfl ?_
          refine v_iload 500 rfl dL_law_498 rfl ?_
          refine v_iconst (v := nI 1) 501 rfl dL_law_500 (by decide) ?_
          refine v_iaddN (a := 5 * j) (b := 1) 502 rfl dL_law_501 ?_
          refine v_sld (i := 5 * j + 1) (v := nI n) 503 rfl dL_law_502 (by omega) (by omega) en1 ?_
          refine v_aload_n 504 rfl dL_law_503 rfl rfl ?_
          refine v_iload 506 rfl dL_law_504 rfl ?_
          refine v_iconst (v := nI 2) 507 rfl dL_law_506 (by decide) ?_
          refine v_iaddN (a := 5 * j) (b := 2) 508 rfl dL_law_507 ?_
          refine v_sld (i := 5 * j + 2) (v := xs (5 * j + 2)) 509 rfl dL_law_508 (by omega) (by omega) rfl ?_
          refine v_callV (n := 2) (q0 := 0) (ci := 4) (C := RX4) (As := [.int (nI n), .int (xs (5 * j + 2))]) (wM bd cI cZ le la kd fs sc mi bh sm oo ie ob mp rf rp rs mt mc no lf he pi ot bf ar md) (wC ad cI cZ tg fn ki nu fi se ju op en sm ob be af pl rf rp rs ra rb rl) (wC ad cI cZ tg fn ki nu fi se ju op en sm ob be af pl rf rp rs ra rb rl) (wO o cJ g) 512 rfl (c_heldV n A _ hn hA hv hB) gL_law_X4_held rfl (by decide +kernel) rfl ⟨(Nat.le_of_ble_eq_true rfl), (Nat.le_of_ble_eq_true rfl)⟩ rfl (Nat.le_of_ble_eq_true rfl) rfl rfl rfl dL_law_509 hcs rfl rfl ?_
          refine v_w (w' := wM bd cI cZ le la kd fs sc mi bh sm oo ie ob mp rf rp rs mt mc no lf he pi ot bf ar md ++ (wC ad cI cZ tg fn ki nu fi se ju op en sm ob be af pl rf rp rs ra rb rl ++ wO o cJ g)) rfl ?_
          refine v_st (st' := [.int (-2)]) rfl ?_
          refine v_aload_n 513 rfl dL_law_512 rfl rfl ?_
          refine v_aload_n 514 rfl dL_law_513 rfl rfl ?_
          refine v_iload 516 rfl dL_law_514 rfl ?_
          refine v_iconst (v := nI 1) 517 rfl dL_law_516 (by decide) ?_
          refine v_iaddN (a := 5 * j) (b := 1) 518 rfl dL_law_517 ?_
          refine v_sld (i := 5 * j + 1) (v := nI n) 519 rfl dL_law_518 (by omega) (by omega) en1 ?_
          refine v_aload_n 520 rfl dL_law_519 rfl rfl ?_
          refine v_iload 522 rfl dL_law_520 rfl ?_
          refine v_iconst (v := nI 2) 523 rfl dL_law_522 (by decide) ?_
          refine v_iaddN (a := 5 * j) (b := 2) 524 rfl dL_law_523 ?_
          refine v_sld (i := 5 * j + 2) (v := xs (5 * j + 2)) 525 rfl dL_law_524 (by omega) (by omega) rfl ?_
          refine v_callV (n := 2) (q0 := 0) (ci := 5) (C := RX5) (As := [.int (nI n), .int (xs (5 * j + 2))]) ([]) (wM bd cI cZ le la kd fs sc mi bh sm oo ie ob mp rf rp rs mt mc no lf he pi ot bf ar md) (wM bd cI cZ le la kd fs sc mi bh sm oo ie ob mp rf rp rs (nI 0) mc no lf he pi ot bf ar md) (wC ad cI cZ tg fn ki nu fi se ju op en sm ob be af pl rf rp rs ra rb rl ++ wO o cJ g) 528 rfl (m_heldNo _ _ h1 hq) gL_law_X5_held rfl (by decide +kernel) rfl ⟨(Nat.le_of_ble_eq_true rfl), (Nat.le_of_ble_eq_true rfl)⟩ rfl (Nat.le_of_ble_eq_true rfl) rfl rfl rfl dL_law_525 hcs rfl rfl ?_
          refine v_w (w' := wM bd cI cZ le la kd fs sc mi bh sm oo ie ob mp rf rp rs (nI 0) mc no lf he pi ot bf ar md ++ (wC ad cI cZ tg fn ki nu fi se ju op en sm ob be af pl rf rp rs ra rb rl ++ wO o cJ g)) rfl ?_
          refine v_st (st' := [.int (-2), .int (-2)]) rfl ?_
          refine v_icmp_eq 665 531 rfl dL_law_528 (by decide) (fun _ => ?_) (fun q => absurd rfl q)
          refine v_widen (Nat.le_succ _) (Nat.le_add_right _ 6) ?_
          exact T tg fn ki nu fi se ju op en sm ob be af pl rf rp rs ra rb rl le la kd fs sc mi bh oo ie mp (nI 0) mc no lf he pi ot bf ar md g ⟨⟨tn, fb, htb⟩, hPR, hBe, hCh, hLf, hno⟩
  · have hi := (Bool.not_eq_true _).mp hi
    rcases id hCh with ⟨h1, h2, h3⟩ | ⟨h1, h2, h3⟩
    · skip
      refine v_aload_n 497 rfl dL_law_496 rfl rfl ?_
      refine v_aload_n 498 rfl dL_law_497 rfl rfl ?_
      refine v_iload 500 rfl dL_law_498 rfl ?_
      refine v_iconst (v := nI 1) 501 rfl dL_law_500 (by decide) ?_
      refine v_iaddN (a := 5 * j) (b := 1) 502 rfl dL_law_501 ?_
      refine v_sld (i := 5 * j + 1) (v := xs (5 * j + 1)) 503 rfl dL_law_502 (by omega) (by omega) rfl ?_
      refine v_aload_n 504 rfl dL_law_503 rfl rfl ?_
      refine v_iload 506 rfl dL_law_504 rfl ?_
      refine v_iconst (v := nI 2) 507 rfl dL_law_506 (by decide) ?_
      refine v_iaddN (a := 5 * j) (b := 2) 508 rfl dL_law_507 ?_
      refine v_sld (i := 5 * j + 2) (v := xs (5 * j + 2)) 509 rfl dL_law_508 (by omega) (by omega) rfl ?_
      refine v_callV (n := 2) (q0 := 0) (ci := 4) (C := RX4) (As := [.int (xs (5 * j + 1)), .int (xs (5 * j + 2))]) (wM bd cI cZ le la kd fs sc mi bh sm oo ie ob mp rf rp rs mt mc no lf he pi ot bf ar md) (wC ad cI cZ tg fn ki nu fi se ju op en sm ob be af pl rf rp rs ra rb rl) (wC ad cI cZ tg fn ki nu fi se ju op en sm ob be af pl rf rp rs ra rb rl) (wO o cJ g) 512 rfl (c_heldN _ _ hi) gL_law_X4_held rfl (by decide +kernel) rfl ⟨(Nat.le_of_ble_eq_true rfl), (Nat.le_of_ble_eq_true rfl)⟩ rfl (Nat.le_of_ble_eq_true rfl) rfl rfl rfl dL_law_509 hcs rfl rfl ?_
      refine v_w (w' := wM bd cI cZ le la kd fs sc mi bh sm oo ie ob mp rf rp rs mt mc no lf he pi ot bf ar md ++ (wC ad cI cZ tg fn ki nu fi se ju op en sm ob be af pl rf rp rs ra rb rl ++ wO o cJ g)) rfl ?_
      refine v_st (st' := [.int (-2)]) rfl ?_
      refine v_aload_n 513 rfl dL_law_512 rfl rfl ?_
      refine v_aload_n 514 rfl dL_law_513 rfl rfl ?_
      refine v_iload 516 rfl dL_law_514 rfl ?_
      refine v_iconst (v := nI 1) 517 rfl dL_law_516 (by decide) ?_
      refine v_iaddN (a := 5 * j) (b := 1) 518 rfl dL_law_517 ?_
      refine v_sld (i := 5 * j + 1) (v := xs (5 * j + 1)) 519 rfl dL_law_518 (by omega) (by omega) rfl ?_
      refine v_aload_n 520 rfl dL_law_519 rfl rfl ?_
      refine v_iload 522 rfl dL_law_520 rfl ?_
      refine v_iconst (v := nI 2) 523 rfl dL_law_522 (by decide) ?_
      refine v_iaddN (a := 5 * j) (b := 2) 524 rfl dL_law_523 ?_
      refine v_sld (i := 5 * j + 2) (v := xs (5 * j + 2)) 525 rfl dL_law_524 (by omega) (by omega) rfl ?_
      refine v_callV (n := 2) (q0 := 0) (ci := 5) (C := RX5) (As := [.int (xs (5 * j + 1)), .int (xs (5 * j + 2))]) ([]) (wM bd cI cZ le la kd fs sc mi bh sm oo ie ob mp rf rp rs mt mc no lf he pi ot bf ar md) (wM bd cI cZ le la kd fs sc mi bh sm oo ie ob mp rf rp rs (nI 0) mc no lf he pi ot bf ar md) (wC ad cI cZ tg fn ki nu fi se ju op en sm ob be af pl rf rp rs ra rb rl ++ wO o cJ g) 528 rfl (m_held0 _ _ h1) gL_law_X5_held rfl (by decide +kernel) rfl ⟨(Nat.le_of_ble_eq_true rfl), (Nat.le_of_ble_eq_true rfl)⟩ rfl (Nat.le_of_ble_eq_true rfl) rfl rfl rfl dL_law_525 hcs rfl rfl ?_
      refine v_w (w' := wM bd cI cZ le la kd fs sc mi bh sm oo ie ob mp rf rp rs (nI 0) mc no lf he pi ot bf ar md ++ (wC ad cI cZ tg fn ki nu fi se ju op en sm ob be af pl rf rp rs ra rb rl ++ wO o cJ g)) rfl ?_
      refine v_st (st' := [.int (-2), .int (-2)]) rfl ?_
      refine v_icmp_eq 665 531 rfl dL_law_528 (by decide) (fun _ => ?_) (fun q => absurd rfl q)
      refine v_widen (Nat.le_succ _) (Nat.le_add_right _ 6) ?_
      exact T tg fn ki nu fi se ju op en sm ob be af pl rf rp rs ra rb rl le la kd fs sc mi bh oo ie mp (nI 0) mc no lf he pi ot bf ar md g ⟨⟨tn, fb, htb⟩, hPR, hBe, hCh, hLf, hno⟩
    · have hq : (bel (xs (5 * j + 1)) (nI 40) && bel (xs (5 * j + 2)) (nI 4)) = false := by rw [hi, Bool.false_and]
      refine v_aload_n 497 rfl dL_law_496 rfl rfl ?_
      refine v_aload_n 498 rfl dL_law_497 rfl rfl ?_
      refine v_iload 500 rfl dL_law_498 rfl ?_
      refine v_iconst (v := nI 1) 501 rfl dL_law_500 (by decide) ?_
      refine v_iaddN (a := 5 * j) (b := 1) 502 rfl dL_law_501 ?_
      refine v_sld (i := 5 * j + 1) (v := xs (5 * j + 1)) 503 rfl dL_law_502 (by omega) (by omega) rfl ?_
      refine v_aload_n 504 rfl dL_law_503 rfl rfl ?_
      refine v_iload 506 rfl dL_law_504 rfl ?_
      refine v_iconst (v := nI 2) 507 rfl dL_law_506 (by decide) ?_
      refine v_iaddN (a := 5 * j) (b := 2) 508 rfl dL_law_507 ?_
      refine v_sld (i := 5 * j + 2) (v := xs (5 * j + 2)) 509 rfl dL_law_508 (by omega) (by omega) rfl ?_
      refine v_callV (n := 2) (q0 := 0) (ci := 4) (C := RX4) (As := [.int (xs (5 * j + 1)), .int (xs (5 * j + 2))]) (wM bd cI cZ le la kd fs sc mi bh sm oo ie ob mp rf rp rs mt mc no lf he pi ot bf ar md) (wC ad cI cZ tg fn ki nu fi se ju op en sm ob be af pl rf rp rs ra rb rl) (wC ad cI cZ tg fn ki nu fi se ju op en sm ob be af pl rf rp rs ra rb rl) (wO o cJ g) 512 rfl (c_heldN _ _ hi) gL_law_X4_held rfl (by decide +kernel) rfl ⟨(Nat.le_of_ble_eq_true rfl), (Nat.le_of_ble_eq_true rfl)⟩ rfl (Nat.le_of_ble_eq_true rfl) rfl rfl rfl dL_law_509 hcs rfl rfl ?_
      refine v_w (w' := wM bd cI cZ le la kd fs sc mi bh sm oo ie ob mp rf rp rs mt mc no lf he pi ot bf ar md ++ (wC ad cI cZ tg fn ki nu fi se ju op en sm ob be af pl rf rp rs ra rb rl ++ wO o cJ g)) rfl ?_
      refine v_st (st' := [.int (-2)]) rfl ?_
      refine v_aload_n 513 rfl dL_law_512 rfl rfl ?_
      refine v_aload_n 514 rfl dL_law_513 rfl rfl ?_
      refine v_iload 516 rfl dL_law_514 rfl ?_
      refine v_iconst (v := nI 1) 517 rfl dL_law_516 (by decide) ?_
      refine v_iaddN (a := 5 * j) (b := 1) 518 rfl dL_law_517 ?_
      refine v_sld (i := 5 * j + 1) (v := xs (5 * j + 1)) 519 rfl dL_law_518 (by omega) (by omega) rfl ?_
      refine v_aload_n 520 rfl dL_law_519 rfl rfl ?_
      refine v_iload 522 rfl dL_law_520 rfl ?_
      refine v_iconst (v := nI 2) 523 rfl dL_law_522 (by decide) ?_
      refine v_iaddN (a := 5 * j) (b := 2) 524 rfl dL_law_523 ?_
      refine v_sld (i := 5 * j + 2) (v := xs (5 * j + 2)) 525 rfl dL_law_524 (by omega) (by omega) rfl ?_
      refine v_callV (n := 2) (q0 := 0) (ci := 5) (C := RX5) (As := [.int (xs (5 * j + 1)), .int (xs (5 * j + 2))]) ([]) (wM bd cI cZ le la kd fs sc mi bh sm oo ie ob mp rf rp rs mt mc no lf he pi ot bf ar md) (wM bd cI cZ le la kd fs sc mi bh sm oo ie ob mp rf rp rs (nI 0) mc no lf he pi ot bf ar md) (wC ad cI cZ tg fn ki nu fi se ju op en sm ob be af pl rf rp rs ra rb rl ++ wO o cJ g) 528 rfl (m_heldNo _ _ h1 hq) gL_law_X5_held rfl (by decide +kernel) rfl ⟨(Nat.le_of_ble_eq_true rfl), (Nat.le_of_ble_eq_true rfl)⟩ rfl (Nat.le_of_ble_eq_true rfl) rfl rfl rfl dL_law_525 hcs rfl rfl ?_
      refine v_w (w' := wM bd cI cZ le la kd fs sc mi bh sm oo ie ob mp rf rp rs (nI 0) mc no lf he pi ot bf ar md ++ (wC ad cI cZ tg fn ki nu fi se ju op en sm ob be af pl rf rp rs ra rb rl ++ wO o cJ g)) rfl ?_
      refine v_st (st' := [.int (-2), .int (-2)]) rfl ?_
      refine v_icmp_eq 665 531 rfl dL_law_528 (by decide) (fun _ => ?_) (fun q => absurd rfl q)
      refine v_widen (Nat.le_succ _) (Nat.le_add_right _ 6) ?_
      exact T tg fn ki nu fi se ju op en sm ob be af pl rf rp rs ra rb rl le la kd fs sc mi bh oo ie mp (nI 0) mc no lf he pi ot bf ar md g ⟨⟨tn, fb, htb⟩, hPR, hBe, hCh, hLf, hno⟩
set_option maxRecDepth 100000 in
set_option maxHeartbeats 4000000 in
theorem k_runFault {D : va_G} {cI cZ cJ : ClassId} {l : Launch} {b L : Nat} {xs : Nat → Int32} {sa : Nat → Nat} {nm : String} {ad bd : Nat → Nat} {o : Nat} (hlT : l.stackTraces = false) (j : Nat) (hj : 5 * j + 5 ≤ L) (hL : L ≤ 2560) (T : LHd (xLw D cI cZ cJ l b L xs sa) (kLw nm) (33 + j + 1) (1375 + 6 * j + 6) 665 ad bd cI cZ cJ o (lvj j b (ad 0) (bd 0) o)) : LHd (xLw D cI cZ cJ l b L xs sa) (kLw nm) (33 + j) (1375 + 6 * j) 601 ad bd cI cZ cJ o (lvj j b (ad 0) (bd 0) o) := by
  intro tg fn ki nu fi se ju op en sm ob be af pl rf rp rs ra rb rl le la kd fs sc mi bh oo ie mp mt mc no lf he pi ot bf ar md g hR
  obtain ⟨⟨tn, fb, htb⟩, hPR, hBe, hCh, hLf, hno⟩ := hR
  have hcs : 33 + j ≤ room_1.cells ∧ 1375 + 6 * j ≤ room_1.slots := ⟨by show 33 + j ≤ 1060; omega, by show 1375 + 6 * j ≤ 9585; omega⟩
  obtain ⟨hs40, ho6, hen, hen1⟩ := hPR.b
  refine v_aload_n 602 rfl dL_law_601 rfl rfl ?_
  refine v_callV (n := 0) (q0 := 0) (ci := 4) (C := RX4) (As := []) (wM bd cI cZ le la kd fs sc mi bh sm oo ie ob mp rf rp rs mt mc no lf he pi ot bf ar md) (wC ad cI cZ tg fn ki nu fi se ju op en sm ob be af pl rf rp rs ra rb rl) (wC ad cI cZ tg fn ki nu fi se ju op en sm ob be af pl rf rp rs ra rb rl) (wO o cJ g) 605 rfl (c_runFault) gL_law_X4_runFault rfl (by decide +kernel) rfl ⟨(Nat.le_of_ble_eq_true rfl), (Nat.le_of_ble_eq_true rfl)⟩ rfl (Nat.le_of_ble_eq_true rfl) rfl rfl rfl dL_law_602 hcs rfl rfl ?_
  refine v_w (w' := wM bd cI cZ le la kd fs sc mi bh sm oo ie ob mp rf rp rs mt mc no lf he pi ot bf ar md ++ (wC ad cI cZ tg fn ki nu fi se ju op en sm ob be af pl rf rp rs ra rb rl ++ wO o cJ g)) rfl ?_
  refine v_st (st' := [.int (rf)]) rfl ?_
  refine v_aload_n 606 rfl dL_law_605 rfl rfl ?_
  refine v_callV (n := 0) (q0 := 0) (ci := 5) (C := RX5) (As := []) ([]) (wM bd cI cZ le la kd fs sc mi bh sm oo ie ob mp rf rp rs mt mc no lf he pi ot bf ar md) (wM bd cI cZ le la kd fs sc mi bh sm oo ie ob mp rf rp rs (nI 0) mc no lf he pi ot bf ar md) (wC ad cI cZ tg fn ki nu fi se ju op en sm ob be af pl rf rp rs ra rb rl ++ wO o cJ g) 609 rfl (m_runFault) gL_law_X5_runFault rfl (by decide +kernel) rfl ⟨(Nat.le_of_ble_eq_true rfl), (Nat.le_of_ble_eq_true rfl)⟩ rfl (Nat.le_of_ble_eq_true rfl) rfl rfl rfl dL_law_606 hcs rfl rfl ?_
  refine v_w (w' := wM bd cI cZ le la kd fs sc mi bh sm oo ie ob mp rf rp rs (nI 0) mc no lf he pi ot bf ar md ++ (wC ad cI cZ tg fn ki nu fi se ju op en sm ob be af pl rf rp rs ra rb rl ++ wO o cJ g)) rfl ?_
  refine v_st (st' := [.int (rf), .int (rf)]) rfl ?_
  refine v_icmp_eq 665 612 rfl dL_law_609 (by decide) (fun _ => ?_) (fun q => absurd rfl q)
  refine v_widen (Nat.le_succ _) (Nat.le_add_right _ 6) ?_
  exact T tg fn ki nu fi se ju op en sm ob be af pl rf rp rs ra rb rl le la kd fs sc mi bh oo ie mp (nI 0) mc no lf he pi ot bf ar md g ⟨⟨tn, fb, htb⟩, hPR, hBe, hCh, hLf, hno⟩
set_option maxRecDepth 100000 in
set_option maxHeartbeats 4000000 in
theorem k_runAt {D : va_G} {cI cZ cJ : ClassId} {l : Launch} {b L : Nat} {xs : Nat → Int32} {sa : Nat → Nat} {nm : String} {ad bd : Nat → Nat} {o : Nat} (hlT : l.stackTraces = false) (j : Nat) (hj : 5 * j + 5 ≤ L) (hL : L ≤ 2560) (T : LHd (xLw D cI cZ cJ l b L xs sa) (kLw nm) (33 + j + 1) (1375 + 6 * j + 6) 665 ad bd cI cZ cJ o (lvj j b (ad 0) (bd 0) o)) : LHd (xLw D cI cZ cJ l b L xs sa) (kLw nm) (33 + j) (1375 + 6 * j) 614 ad bd cI cZ cJ o (lvj j b (ad 0) (bd 0) o) := by
  intro tg fn ki nu fi se ju op en sm ob be af pl rf rp rs ra rb rl le la kd fs sc mi bh oo ie mp mt mc no lf he pi ot bf ar md g hR
  obtain ⟨⟨tn, fb, htb⟩, hPR, hBe, hCh, hLf, hno⟩ := hR
  have hcs : 33 + j ≤ room_1.cells ∧ 1375 + 6 * j ≤ room_1.slots := ⟨by show 33 + j ≤ 1060; omega, by show 1375 + 6 * j ≤ 9585; omega⟩
  obtain ⟨hs40, ho6, hen, hen1⟩ := hPR.b
  refine v_aload_n 615 rfl dL_law_614 rfl rfl ?_
  refine v_callV (n := 0) (q0 := 0) (ci := 4) (C := RX4) (As := []) (wM bd cI cZ le la kd fs sc mi bh sm oo ie ob mp rf rp rs mt mc no lf he pi ot bf ar md) (wC ad cI cZ tg fn ki nu fi se ju op en sm ob be af pl rf rp rs ra rb rl) (wC ad cI cZ tg fn ki nu fi se ju op en sm ob be af pl rf rp rs ra rb rl) (wO o cJ g) 618 rfl (c_runAt) gL_law_X4_runAt rfl (by decide +kernel) rfl ⟨(Nat.le_of_ble_eq_true rfl), (Nat.le_of_ble_eq_true rfl)⟩ rfl (Nat.le_of_ble_eq_true rfl) rfl rfl rfl dL_law_615 hcs rfl rfl ?_
  refine v_w (w' := wM bd cI cZ le la kd fs sc mi bh sm oo ie ob mp rf rp rs mt mc no lf he pi ot bf ar md ++ (wC ad cI cZ tg fn ki nu fi se ju op en sm ob be af pl rf rp rs ra rb rl ++ wO o cJ g)) rfl ?_
  refine v_st (st' := [.int (rp)]) rfl ?_
  refine v_aload_n 619 rfl dL_law_618 rfl rfl ?_
  refine v_callV (n := 0) (q0 := 0) (ci := 5) (C := RX5) (As := []) ([]) (wM bd cI cZ le la kd fs sc mi bh sm oo ie ob mp rf rp rs mt mc no lf he pi ot bf ar md) (wM bd cI cZ le la kd fs sc mi bh sm oo ie ob mp rf rp rs (nI 0) mc no lf he pi ot bf ar md) (wC ad cI cZ tg fn ki nu fi se ju op en sm ob be af pl rf rp rs ra rb rl ++ wO o cJ g) 622 rfl (m_runAt) gL_law_X5_runAt rfl (by decide +kernel) rfl ⟨(Nat.le_of_ble_eq_true rfl), (Nat.le_of_ble_eq_true rfl)⟩ rfl (Nat.le_of_ble_eq_true rfl) rfl rfl rfl dL_law_619 hcs rfl rfl ?_
  refine v_w (w' := wM bd cI cZ le la kd fs sc mi bh sm oo ie ob mp rf rp rs (nI 0) mc no lf he pi ot bf ar md ++ (wC ad cI cZ tg fn ki nu fi se ju op en sm ob be af pl rf rp rs ra rb rl ++ wO o cJ g)) rfl ?_
  refine v_st (st' := [.int (rp), .int (rp)]) rfl ?_
  refine v_icmp_eq 665 625 rfl dL_law_622 (by decide) (fun _ => ?_) (fun q => absurd rfl q)
  refine v_widen (Nat.le_succ _) (Nat.le_add_right _ 6) ?_
  exact T tg fn ki nu fi se ju op en sm ob be af pl rf rp rs ra rb rl le la kd fs sc mi bh oo ie mp (nI 0) mc no lf he pi ot bf ar md g ⟨⟨tn, fb, htb⟩, hPR, hBe, hCh, hLf, hno⟩
set_option maxRecDepth 100000 in
set_option maxHeartbeats 4000000 in
theorem k_steps {D : va_G} {cI cZ cJ : ClassId} {l : Launch} {b L : Nat} {xs : Nat → Int32} {sa : Nat → Nat} {nm : String} {ad bd : Nat → Nat} {o : Nat} (hlT : l.stackTraces = false) (j : Nat) (hj : 5 * j + 5 ≤ L) (hL : L ≤ 2560) (T : LHd (xLw D cI cZ cJ l b L xs sa) (kLw nm) (33 + j + 1) (1375 + 6 * j + 6) 665 ad bd cI cZ cJ o (lvj j b (ad 0) (bd 0) o)) : LHd (xLw D cI cZ cJ l b L xs sa) (kLw nm) (33 + j) (1375 + 6 * j) 627 ad bd cI cZ cJ o (lvj j b (ad 0) (bd 0) o) := by
  intro tg fn ki nu fi se ju op en sm ob be af pl rf rp rs ra rb rl le la kd fs sc mi bh oo ie mp mt mc no lf he pi ot bf ar md g hR
  obtain ⟨⟨tn, fb, htb⟩, hPR, hBe, hCh, hLf, hno⟩ := hR
  have hcs : 33 + j ≤ room_1.cells ∧ 1375 + 6 * j ≤ room_1.slots := ⟨by show 33 + j ≤ 1060; omega, by show 1375 + 6 * j ≤ 9585; omega⟩
  obtain ⟨hs40, ho6, hen, hen1⟩ := hPR.b
  refine v_aload_n 628 rfl dL_law_627 rfl rfl ?_
  refine v_callV (n := 0) (q0 := 0) (ci := 4) (C := RX4) (As := []) (wM bd cI cZ le la kd fs sc mi bh sm oo ie ob mp rf rp rs mt mc no lf he pi ot bf ar md) (wC ad cI cZ tg fn ki nu fi se ju op en sm ob be af pl rf rp rs ra rb rl) (wC ad cI cZ tg fn ki nu fi se ju op en sm ob be af pl rf rp rs ra rb rl) (wO o cJ g) 631 rfl (c_steps) gL_law_X4_steps rfl (by decide +kernel) rfl ⟨(Nat.le_of_ble_eq_true rfl), (Nat.le_of_ble_eq_true rfl)⟩ rfl (Nat.le_of_ble_eq_true rfl) rfl rfl rfl dL_law_628 hcs rfl rfl ?_
  refine v_w (w' := wM bd cI cZ le la kd fs sc mi bh sm oo ie ob mp rf rp rs mt mc no lf he pi ot bf ar md ++ (wC ad cI cZ tg fn ki nu fi se ju op en sm ob be af pl rf rp rs ra rb rl ++ wO o cJ g)) rfl ?_
  refine v_st (st' := [.int (nI rs)]) rfl ?_
  refine v_aload_n 632 rfl dL_law_631 rfl rfl ?_
  refine v_callV (n := 0) (q0 := 0) (ci := 5) (C := RX5) (As := []) ([]) (wM bd cI cZ le la kd fs sc mi bh sm oo ie ob mp rf rp rs mt mc no lf he pi ot bf ar md) (wM bd cI cZ le la kd fs sc mi bh sm oo ie ob mp rf rp rs (nI 0) mc no lf he pi ot bf ar md) (wC ad cI cZ tg fn ki nu fi se ju op en sm ob be af pl rf rp rs ra rb rl ++ wO o cJ g) 635 rfl (m_steps) gL_law_X5_steps rfl (by decide +kernel) rfl ⟨(Nat.le_of_ble_eq_true rfl), (Nat.le_of_ble_eq_true rfl)⟩ rfl (Nat.le_of_ble_eq_true rfl) rfl rfl rfl dL_law_632 hcs rfl rfl ?_
  refine v_w (w' := wM bd cI cZ le la kd fs sc mi bh sm oo ie ob mp rf rp rs (nI 0) mc no lf he pi ot bf ar md ++ (wC ad cI cZ tg fn ki nu fi se ju op en sm ob be af pl rf rp rs ra rb rl ++ wO o cJ g)) rfl ?_
  refine v_st (st' := [.int (nI rs), .int (nI rs)]) rfl ?_
  refine v_icmp_eq 665 638 rfl dL_law_635 (by decide) (fun _ => ?_) (fun q => absurd rfl q)
  refine v_widen (Nat.le_succ _) (Nat.le_add_right _ 6) ?_
  exact T tg fn ki nu fi se ju op en sm ob be af pl rf rp rs ra rb rl le la kd fs sc mi bh oo ie mp (nI 0) mc no lf he pi ot bf ar md g ⟨⟨tn, fb, htb⟩, hPR, hBe, hCh, hLf, hno⟩
set_option maxRecDepth 100000 in
set_option maxHeartbeats 4000000 in
theorem k_left {D : va_G} {cI cZ cJ : ClassId} {l : Launch} {b L : Nat} {xs : Nat → Int32} {sa : Nat → Nat} {nm : String} {ad bd : Nat → Nat} {o : Nat} (hlT : l.stackTraces = false) (j : Nat) (hj : 5 * j + 5 ≤ L) (hL : L ≤ 2560) (T : LHd (xLw D cI cZ cJ l b L xs sa) (kLw nm) (33 + j + 1) (1375 + 6 * j + 6) 665 ad bd cI cZ cJ o (lvj j b (ad 0) (bd 0) o)) : LHd (xLw D cI cZ cJ l b L xs sa) (kLw nm) (33 + j) (1375 + 6 * j) 640 ad bd cI cZ cJ o (lvj j b (ad 0) (bd 0) o) := by
  intro tg fn ki nu fi se ju op en sm ob be af pl rf rp rs ra rb rl le la kd fs sc mi bh oo ie mp mt mc no lf he pi ot bf ar md g hR
  obtain ⟨⟨tn, fb, htb⟩, hPR, hBe, hCh, hLf, hno⟩ := hR
  have hcs : 33 + j ≤ room_1.cells ∧ 1375 + 6 * j ≤ room_1.slots := ⟨by show 33 + j ≤ 1060; omega, by show 1375 + 6 * j ≤ 9585; omega⟩
  obtain ⟨hs40, ho6, hen, hen1⟩ := hPR.b
  by_cases hv : bel (xs (5 * j + 1)) (nI 4) = true
  · obtain ⟨v, hv, ev⟩ := bel_t (by decide) hv
    refine v_aload_n 641 rfl dL_law_640 rfl rfl ?_
    refine v_aload_n 642 rfl dL_law_641 rfl rfl ?_
    refine v_iload 644 rfl dL_law_642 rfl ?_
    refine v_iconst (v := nI 1) 645 rfl dL_law_644 (by decide) ?_
    refine v_iaddN (a := 5 * j) (b := 1) 646 rfl dL_law_645 ?_
    refine v_sld (i := 5 * j + 1) (v := nI v) 647 rfl dL_law_646 (by omega) (by omega) ev ?_
    refine v_callV (n := 1) (q0 := 0) (ci := 4) (C := RX4) (As := [.int (nI v)]) (wM bd cI cZ le la kd fs sc mi bh sm oo ie ob mp rf rp rs mt mc no lf he pi ot bf ar md) (wC ad cI cZ tg fn ki nu fi se ju op en sm ob be af pl rf rp rs ra rb rl) (wC ad cI cZ tg fn ki nu fi se ju op en sm ob be af pl rf rp rs ra rb rl) (wO o cJ g) 650 rfl (c_left v hv hLf.1.1) gL_law_X4_left rfl (by decide +kernel) rfl ⟨(Nat.le_of_ble_eq_true rfl), (Nat.le_of_ble_eq_true rfl)⟩ rfl (Nat.le_of_ble_eq_true rfl) rfl rfl rfl dL_law_647 hcs rfl rfl ?_
    refine v_w (w' := wM bd cI cZ le la kd fs sc mi bh sm oo ie ob mp rf rp rs mt mc no lf he pi ot bf ar md ++ (wC ad cI cZ tg fn ki nu fi se ju op en sm ob be af pl rf rp rs ra rb rl ++ wO o cJ g)) rfl ?_
    refine v_st (st' := [.int (oI (hb ra v))]) rfl ?_
    refine v_aload_n 651 rfl dL_law_650 rfl rfl ?_
    refine v_aload_n 652 rfl dL_law_651 rfl rfl ?_
    refine v_iload 654 rfl dL_law_652 rfl ?_
    refine v_iconst (v := nI 1) 655 rfl dL_law_654 (by decide) ?_
    refine v_iaddN (a := 5 * j) (b := 1) 656 rfl dL_law_655 ?_
    refine v_sld (i := 5 * j + 1) (v := nI v) 657 rfl dL_law_656 (by omega) (by omega) ev ?_
    refine v_callV (n := 1) (q0 := 0) (ci := 5) (C := RX5) (As := [.int (nI v)]) ([]) (wM bd cI cZ le la kd fs sc mi bh sm oo ie ob mp rf rp rs mt mc no lf he pi ot bf ar md) (wM bd cI cZ le la kd fs sc mi bh sm oo ie ob mp rf rp rs (nI 0) mc no lf he pi ot bf ar md) (wC ad cI cZ tg fn ki nu fi se ju op en sm ob be af pl rf rp rs ra rb rl ++ wO o cJ g) 660 rfl (m_left v (oI (hb ra v)) hv (hLf.2.1 v hv)) gL_law_X5_left rfl (by decide +kernel) rfl ⟨(Nat.le_of_ble_eq_true rfl), (Nat.le_of_ble_eq_true rfl)⟩ rfl (Nat.le_of_ble_eq_true rfl) rfl rfl rfl dL_law_657 hcs rfl rfl ?_
    refine v_w (w' := wM bd cI cZ le la kd fs sc mi bh sm oo ie ob mp rf rp rs (nI 0) mc no lf he pi ot bf ar md ++ (wC ad cI cZ tg fn ki nu fi se ju op en sm ob be af pl rf rp rs ra rb rl ++ wO o cJ g)) rfl ?_
    refine v_st (st' := [.int (oI (hb ra v)), .int (oI (hb ra v))]) rfl ?_
    refine v_icmp_eq 665 663 rfl dL_law_660 (by decide) (fun _ => ?_) (fun q => absurd rfl q)
    refine v_widen (Nat.le_succ _) (Nat.le_add_right _ 6) ?_
    exact T tg fn ki nu fi se ju op en sm ob be af pl rf rp rs ra rb rl le la kd fs sc mi bh oo ie mp (nI 0) mc no lf he pi ot bf ar md g ⟨⟨tn, fb, htb⟩, hPR, hBe, hCh, hLf, hno⟩
  · have hv := (Bool.not_eq_true _).mp hv
    refine v_aload_n 641 rfl dL_law_640 rfl rfl ?_
    refine v_aload_n 642 rfl dL_law_641 rfl rfl ?_
    refine v_iload 644 rfl dL_law_642 rfl ?_
    refine v_iconst (v := nI 1) 645 rfl dL_law_644 (by decide) ?_
    refine v_iaddN (a := 5 * j) (b := 1) 646 rfl dL_law_645 ?_
    refine v_sld (i := 5 * j + 1) (v := xs (5 * j + 1)) 647 rfl dL_law_646 (by omega) (by omega) rfl ?_
    refine v_callV (n := 1) (q0 := 0) (ci := 4) (C := RX4) (As := [.int (xs (5 * j + 1))]) (wM bd cI cZ le la kd fs sc mi bh sm oo ie ob mp rf rp rs mt mc no lf he pi ot bf ar md) (wC ad cI cZ tg fn ki nu fi se ju op en sm ob be af pl rf rp rs ra rb rl) (wC ad cI cZ tg fn ki nu fi se ju op en sm ob be af pl rf rp rs ra rb rl) (wO o cJ g) 650 rfl (c_leftNo _ hv) gL_law_X4_left rfl (by decide +kernel) rfl ⟨(Nat.le_of_ble_eq_true rfl), (Nat.le_of_ble_eq_true rfl)⟩ rfl (Nat.le_of_ble_eq_true rfl) rfl rfl rfl dL_law_647 hcs rfl rfl ?_
    refine v_w (w' := wM bd cI cZ le la kd fs sc mi bh sm oo ie ob mp rf rp rs mt mc no lf he pi ot bf ar md ++ (wC ad cI cZ tg fn ki nu fi se ju op en sm ob be af pl rf rp rs ra rb rl ++ wO o cJ g)) rfl ?_
    refine v_st (st' := [.int (-2)]) rfl ?_
    refine v_aload_n 651 rfl dL_law_650 rfl rfl ?_
    refine v_aload_n 652 rfl dL_law_651 rfl rfl ?_
    refine v_iload 654 rfl dL_law_652 rfl ?_
    refine v_iconst (v := nI 1) 655 rfl dL_law_654 (by decide) ?_
    refine v_iaddN (a := 5 * j) (b := 1) 656 rfl dL_law_655 ?_
    refine v_sld (i := 5 * j + 1) (v := xs (5 * j + 1)) 657 rfl dL_law_656 (by omega) (by omega) rfl ?_
    refine v_callV (n := 1) (q0 := 0) (ci := 5) (C := RX5) (As := [.int (xs (5 * j + 1))]) ([]) (wM bd cI cZ le la kd fs sc mi bh sm oo ie ob mp rf rp rs mt mc no lf he pi ot bf ar md) (wM bd cI cZ le la kd fs sc mi bh sm oo ie ob mp rf rp rs (nI 0) mc no lf he pi ot bf ar md) (wC ad cI cZ tg fn ki nu fi se ju op en sm ob be af pl rf rp rs ra rb rl ++ wO o cJ g) 660 rfl (m_leftNo _ hv) gL_law_X5_left rfl (by decide +kernel) rfl ⟨(Nat.le_of_ble_eq_true rfl), (Nat.le_of_ble_eq_true rfl)⟩ rfl (Nat.le_of_ble_eq_true rfl) rfl rfl rfl dL_law_657 hcs rfl rfl ?_
    refine v_w (w' := wM bd cI cZ le la kd fs sc mi bh sm oo ie ob mp rf rp rs (nI 0) mc no lf he pi ot bf ar md ++ (wC ad cI cZ tg fn ki nu fi se ju op en sm ob be af pl rf rp rs ra rb rl ++ wO o cJ g)) rfl ?_
    refine v_st (st' := [.int (-2), .int (-2)]) rfl ?_
    refine v_icmp_eq 665 663 rfl dL_law_660 (by decide) (fun _ => ?_) (fun q => absurd rfl q)
    refine v_widen (Nat.le_succ _) (Nat.le_add_right _ 6) ?_
    exact T tg fn ki nu fi se ju op en sm ob be af pl rf rp rs ra rb rl le la kd fs sc mi bh oo ie mp (nI 0) mc no lf he pi ot bf ar md g ⟨⟨tn, fb, htb⟩, hPR, hBe, hCh, hLf, hno⟩
set_option maxRecDepth 100000 in
set_option maxHeartbeats 4000000 in
theorem k_run {D : va_G} {cI cZ cJ : ClassId} {l : Launch} {b L : Nat} {xs : Nat → Int32} {sa : Nat → Nat} {nm : String} {ad bd : Nat → Nat} {o : Nat} (hlT : l.stackTraces = false) (j : Nat) (hj : 5 * j + 5 ≤ L) (hL : L ≤ 2560) (T : LHd (xLw D cI cZ cJ l b L xs sa) (kLw nm) (33 + j + 1) (1375 + 6 * j + 6) 665 ad bd cI cZ cJ o (lvj j b (ad 0) (bd 0) o)) : LHd (xLw D cI cZ cJ l b L xs sa) (kLw nm) (33 + j) (1375 + 6 * j) 533 ad bd cI cZ cJ o (lvj j b (ad 0) (bd 0) o) := by
  intro tg fn ki nu fi se ju op en sm ob be af pl rf rp rs ra rb rl le la kd fs sc mi bh oo ie mp mt mc no lf he pi ot bf ar md g hR
  obtain ⟨⟨tn, fb, htb⟩, hPR, hBe, hCh, hLf, hno⟩ := hR
  have hcs : 33 + j ≤ room_1.cells ∧ 1375 + 6 * j ≤ room_1.slots := ⟨by show 33 + j ≤ 1060; omega, by show 1375 + 6 * j ≤ 9585; omega⟩
  obtain ⟨hs40, ho6, hen, hen1⟩ := hPR.b
  have hcs2 : 33 + j + 1 ≤ room_1.cells ∧ 1375 + 6 * j + 6 ≤ room_1.slots := ⟨by show 33 + j + 1 ≤ 1060; omega, by show 1375 + 6 * j + 6 ≤ 9585; omega⟩
  by_cases hn : xs (5 * j + 2) < 0 ∨ nI 32 < xs (5 * j + 2)
  · skip
    refine v_aload_n 534 rfl dL_law_533 rfl rfl ?_
    refine v_aload_n 535 rfl dL_law_534 rfl rfl ?_
    refine v_iload 537 rfl dL_law_535 rfl ?_
    refine v_iconst (v := nI 1) 538 rfl dL_law_537 (by decide) ?_
    refine v_iaddN (a := 5 * j) (b := 1) 539 rfl dL_law_538 ?_
    refine v_sld (i := 5 * j + 1) (v := xs (5 * j + 1)) 540 rfl dL_law_539 (by omega) (by omega) rfl ?_
    refine v_aload_n 541 rfl dL_law_540 rfl rfl ?_
    refine v_iload 543 rfl dL_law_541 rfl ?_
    refine v_iconst (v := nI 2) 544 rfl dL_law_543 (by decide) ?_
    refine v_iaddN (a := 5 * j) (b := 2) 545 rfl dL_law_544 ?_
    refine v_sld (i := 5 * j + 2) (v := xs (5 * j + 2)) 546 rfl dL_law_545 (by omega) (by omega) rfl ?_
    refine v_aload_n 547 rfl dL_law_546 rfl rfl ?_
    refine v_callY (As := [.ref (ad 0), .int (xs (5 * j + 1)), .int (xs (5 * j + 2)), .ref o]) (Lw := wM bd cI cZ le la kd fs sc mi bh sm oo ie ob mp rf rp rs mt mc no lf he pi ot bf ar md) (wc := wC ad cI cZ tg fn ki nu fi se ju op en sm ob be af pl rf rp rs ra rb rl ++ wO o cJ g) (wc' := wC ad cI cZ tg fn ki nu fi se ju op en sm ob be af pl rf rp rs ra rb rl ++ wO o cJ g) (l_runT sa _ _ nIAE 1 (Or.inl ⟨rfl, rfl⟩) (c_runIAE1 hlT sa _ _ hn)) rfl ⟨(Nat.le_of_ble_eq_true rfl), (Nat.le_of_ble_eq_true rfl)⟩ rfl (Nat.le_of_ble_eq_true rfl) ⟨by show 33 + j + 1 ≤ 1060; omega, by show 1375 + 6 * j + 6 ≤ 9585; omega⟩ rfl ?_
    refine v_w (w' := wM bd cI cZ le la kd fs sc mi bh sm oo ie ob mp rf rp rs mt mc no lf he pi ot bf ar md ++ (wC ad cI cZ tg fn ki nu fi se ju op en sm ob be af pl rf rp rs ra rb rl ++ wO o cJ g)) rfl ?_
    refine v_st (st' := [.int (nI 1)]) rfl ?_
    refine v_istore (lv' := [(5, .int (nI 1)), (4, .int (nI (5 * j))), (0, .ref b), (1, .ref (ad 0)), (2, .ref (bd 0)), (3, .ref o)]) 552 rfl dL_law_550 (Nat.le_of_ble_eq_true rfl) rfl ?_
    refine v_aload_n 553 rfl dL_law_552 rfl rfl ?_
    refine v_aload_n 554 rfl dL_law_553 rfl rfl ?_
    refine v_iload 556 rfl dL_law_554 rfl ?_
    refine v_iconst (v := nI 1) 557 rfl dL_law_556 (by decide) ?_
    refine v_iaddN (a := 5 * j) (b := 1) 558 rfl dL_law_557 ?_
    refine v_sld (i := 5 * j + 1) (v := xs (5 * j + 1)) 559 rfl dL_law_558 (by omega) (by omega) rfl ?_
    refine v_aload_n 560 rfl dL_law_559 rfl rfl ?_
    refine v_iload 562 rfl dL_law_560 rfl ?_
    refine v_iconst (v := nI 2) 563 rfl dL_law_562 (by decide) ?_
    refine v_iaddN (a := 5 * j) (b := 2) 564 rfl dL_law_563 ?_
    refine v_sld (i := 5 * j + 2) (v := xs (5 * j + 2)) 565 rfl dL_law_564 (by omega) (by omega) rfl ?_
    refine v_callVE (n := 2) (q0 := 0) (ci := 5) (C := RX5) (As := [.int (xs (5 * j + 1)), .int (xs (5 * j + 2))]) ([]) (wM bd cI cZ le la kd fs sc mi bh sm oo ie ob mp rf rp rs mt mc no lf he pi ot bf ar md) (wC ad cI cZ tg fn ki nu fi se ju op en sm ob be af pl rf rp rs ra rb rl ++ wO o cJ g) 568 rfl (m_rnNo _ _ ho6 (by rcases hn with h | h; exact Or.inl h; exact Or.inr (Or.inl h))) gL_law_X5_run rfl (by decide +kernel) rfl ⟨(Nat.le_of_ble_eq_true rfl), (Nat.le_of_ble_eq_true rfl)⟩ rfl (Nat.le_of_ble_eq_true rfl) rfl rfl rfl dL_law_565 hcs2 (by rintro _ _ ⟨rfl, rfl⟩; rfl) rfl ?_
    rintro _ _ ⟨rfl, rfl⟩
    refine v_w (w' := wM bd cI cZ le la kd fs sc mi bh sm oo ie ob mp rf rp rs (nI 1) mc no lf he pi ot bf ar md ++ (wC ad cI cZ tg fn ki nu fi se ju op en sm ob be af pl rf rp rs ra rb rl ++ wO o cJ g)) rfl ?_
    refine v_st (st' := [.int (nI 0)]) rfl ?_
    refine v_istore (lv' := [(6, .int (nI 0)), (5, .int (nI 1)), (4, .int (nI (5 * j))), (0, .ref b), (1, .ref (ad 0)), (2, .ref (bd 0)), (3, .ref o)]) 570 rfl dL_law_568 (Nat.le_of_ble_eq_true rfl) rfl ?_
    refine v_aload_n 571 rfl dL_law_570 rfl rfl ?_
    refine v_callV (n := 0) (q0 := 0) (ci := 5) (C := RX5) (As := []) ([]) (wM bd cI cZ le la kd fs sc mi bh sm oo ie ob mp rf rp rs (nI 1) mc no lf he pi ot bf ar md) (wM bd cI cZ le la kd fs sc mi bh sm oo ie ob mp rf rp rs (nI 1) mc no lf he pi ot bf ar md) (wC ad cI cZ tg fn ki nu fi se ju op en sm ob be af pl rf rp rs ra rb rl ++ wO o cJ g) 574 rfl (m_thrown) gL_law_X5_thrown rfl (by decide +kernel) rfl ⟨(Nat.le_of_ble_eq_true rfl), (Nat.le_of_ble_eq_true rfl)⟩ rfl (Nat.le_of_ble_eq_true rfl) rfl rfl rfl dL_law_571 hcs2 rfl rfl ?_
    refine v_w (w' := wM bd cI cZ le la kd fs sc mi bh sm oo ie ob mp rf rp rs (nI 1) mc no lf he pi ot bf ar md ++ (wC ad cI cZ tg fn ki nu fi se ju op en sm ob be af pl rf rp rs ra rb rl ++ wO o cJ g)) rfl ?_
    refine v_st (st' := [.int (nI 1)]) rfl ?_
    refine v_iload 576 rfl dL_law_574 rfl ?_
    refine v_icmp_eq 581 579 rfl dL_law_576 (by decide) (fun _ => ?_) (fun q => absurd rfl q)
    refine v_iload 583 rfl dL_law_581 rfl ?_
    refine v_if_ne 598 586 rfl dL_law_583 (by decide) (fun _ => ?_) (fun q => False.elim (absurd q (by decide)))
    refine v_goto 665 dL_law_598 (by decide) ?_
    refine v_lv (lv' := lvj j b (ad 0) (bd 0) o) [2, 3, 4, 5, 6] rfl ?_
    exact T tg fn ki nu fi se ju op en sm ob be af pl rf rp rs ra rb rl le la kd fs sc mi bh oo ie mp (nI 1) mc no lf he pi ot bf ar md g ⟨⟨tn, fb, htb⟩, hPR, hBe, hCh, hLf, hno⟩
  · obtain ⟨n, hn1, en1⟩ : ∃ n : Nat, n ≤ 32 ∧ xs (5 * j + 2) = nI n := by
      obtain ⟨n, h1, h2⟩ := nI_of (fun q => hn (Or.inl q))
      refine ⟨n, ?_, h2⟩
      have h3 : ¬ nI 32 < nI n := fun q => hn (Or.inr (by rw [h2]; exact q))
      rw [nI_ltI (by omega) h1] at h3
      omega
    rcases Nat.eq_zero_or_pos ob with h0 | h0
    · obtain ⟨F, rp1, rs1, ra1, rb1, rl1, k1, k2, k3, hM⟩ := c_rp (D := D) (cI := cI) (cZ := cZ) (cJ := cJ) (l := l) (ad := ad) (be := be) (af := af) (pl := pl) (rf := rf) (rp := rp) (rs := rs) (ra := ra) (rb := rb) (rl := rl) tn fb htb hPR h0 (xs (5 * j + 1)) n hn1
      have hMr := @m_rn D cI cZ cJ l tg fn ki nu fi se ju op en sm ob rs rf rp bd le la kd fs sc mi bh oo ie mp mt mc no lf he pi ot bf ar md tn fb htb hPR h0 hno hLf.2.2 (xs (5 * j + 1)) n hn1 F rp1 rs1 ra1 rb1 rl1 k1
      by_cases hF : F = 0
      · subst hF
        rw [if_pos rfl] at hMr
        refine v_aload_n 534 rfl dL_law_533 rfl rfl ?_
        refine v_aload_n 535 rfl dL_law_534 rfl rfl ?_
        refine v_iload 537 rfl dL_law_535 rfl ?_
        refine v_iconst (v := nI 1) 538 rfl dL_law_537 (by decide) ?_
        refine v_iaddN (a := 5 * j) (b := 1) 539 rfl dL_law_538 ?_
        refine v_sld (i := 5 * j + 1) (v := xs (5 * j + 1)) 540 rfl dL_law_539 (by omega) (by omega) rfl ?_
        refine v_aload_n 541 rfl dL_law_540 rfl rfl ?_
        refine v_iload 543 rfl dL_law_541 rfl ?_
        refine v_iconst (v := nI 2) 544 rfl dL_law_543 (by decide) ?_
        refine v_iaddN (a := 5 * j) (b := 2) 545 rfl dL_law_544 ?_
        refine v_sld (i := 5 * j + 2) (v := nI n) 546 rfl dL_law_545 (by omega) (by omega) en1 ?_
        refine v_aload_n 547 rfl dL_law_546 rfl rfl ?_
        refine v_callY (As := [.ref (ad 0), .int (xs (5 * j + 1)), .int (nI n), .ref o]) (Lw := wM bd cI cZ le la kd fs sc mi bh sm oo ie ob mp rf rp rs mt mc no lf he pi ot bf ar md) (wc := wC ad cI cZ tg fn ki nu fi se ju op en sm ob be af pl rf rp rs ra rb rl ++ wO o cJ g) (wc' := wC ad cI cZ tg fn ki nu fi se ju op en sm ob be af pl (nI 0) rp1 rs1 ra1 rb1 rl1 ++ wO o cJ (vp_updL g 0 (nI rs1).toInt64)) (l_runOk sa _ _ (nI rs1) (c_runOk _ n hn1 h0 hM)) rfl ⟨(Nat.le_of_ble_eq_true rfl), (Nat.le_of_ble_eq_true rfl)⟩ rfl (Nat.le_of_ble_eq_true rfl) ⟨by show 33 + j + 1 ≤ 1060; omega, by show 1375 + 6 * j + 6 ≤ 9585; omega⟩ rfl ?_
        refine v_w (w' := wM bd cI cZ le la kd fs sc mi bh sm oo ie ob mp rf rp rs mt mc no lf he pi ot bf ar md ++ (wC ad cI cZ tg fn ki nu fi se ju op en sm ob be af pl (nI 0) rp1 rs1 ra1 rb1 rl1 ++ wO o cJ (vp_updL g 0 (nI rs1).toInt64))) rfl ?_
        refine v_st (st' := [.int (nI 0)]) rfl ?_
        refine v_istore (lv' := [(5, .int (nI 0)), (4, .int (nI (5 * j))), (0, .ref b), (1, .ref (ad 0)), (2, .ref (bd 0)), (3, .ref o)]) 552 rfl dL_law_550 (Nat.le_of_ble_eq_true rfl) rfl ?_
        refine v_aload_n 553 rfl dL_law_552 rfl rfl ?_
        refine v_aload_n 554 rfl dL_law_553 rfl rfl ?_
        refine v_iload 556 rfl dL_law_554 rfl ?_
        refine v_iconst (v := nI 1) 557 rfl dL_law_556 (by decide) ?_
        refine v_iaddN (a := 5 * j) (b := 1) 558 rfl dL_law_557 ?_
        refine v_sld (i := 5 * j + 1) (v := xs (5 * j + 1)) 559 rfl dL_law_558 (by omega) (by omega) rfl ?_
        refine v_aload_n 560 rfl dL_law_559 rfl rfl ?_
        refine v_iload 562 rfl dL_law_560 rfl ?_
        refine v_iconst (v := nI 2) 563 rfl dL_law_562 (by decide) ?_
        refine v_iaddN (a := 5 * j) (b := 2) 564 rfl dL_law_563 ?_
        refine v_sld (i := 5 * j + 2) (v := nI n) 565 rfl dL_law_564 (by omega) (by omega) en1 ?_
        refine v_callVE (n := 2) (q0 := 0) (ci := 5) (C := RX5) (As := [.int (xs (5 * j + 1)), .int (nI n)]) ([]) (wM bd cI cZ le la kd fs sc mi bh sm oo ie ob mp rf rp rs mt mc no lf he pi ot bf ar md) (wC ad cI cZ tg fn ki nu fi se ju op en sm ob be af pl (nI 0) rp1 rs1 ra1 rb1 rl1 ++ wO o cJ (vp_updL g 0 (nI rs1).toInt64)) 568 rfl (hMr) gL_law_X5_run rfl (by decide +kernel) rfl ⟨(Nat.le_of_ble_eq_true rfl), (Nat.le_of_ble_eq_true rfl)⟩ rfl (Nat.le_of_ble_eq_true rfl) rfl rfl rfl dL_law_565 hcs2 (by rintro _ _ ⟨rfl, no', pi', ot', md', k4, rfl⟩; rfl) rfl ?_
        rintro _ _ ⟨rfl, no', pi', ot', md', k4, rfl⟩
        refine v_w (w' := wM bd cI cZ le la kd fs sc mi bh sm oo ie ob mp (nI 0) rp1 rs1 (nI 0) mc no' (nowOf ra1) he pi' ot' bf ar md' ++ (wC ad cI cZ tg fn ki nu fi se ju op en sm ob be af pl (nI 0) rp1 rs1 ra1 rb1 rl1 ++ wO o cJ (vp_updL g 0 (nI rs1).toInt64))) rfl ?_
        refine v_st (st' := [.int (nI rs1)]) rfl ?_
        refine v_istore (lv' := [(6, .int (nI rs1)), (5, .int (nI 0)), (4, .int (nI (5 * j))), (0, .ref b), (1, .ref (ad 0)), (2, .ref (bd 0)), (3, .ref o)]) 570 rfl dL_law_568 (Nat.le_of_ble_eq_true rfl) rfl ?_
        refine v_aload_n 571 rfl dL_law_570 rfl rfl ?_
        refine v_callV (n := 0) (q0 := 0) (ci := 5) (C := RX5) (As := []) ([]) (wM bd cI cZ le la kd fs sc mi bh sm oo ie ob mp (nI 0) rp1 rs1 (nI 0) mc no' (nowOf ra1) he pi' ot' bf ar md') (wM bd cI cZ le la kd fs sc mi bh sm oo ie ob mp (nI 0) rp1 rs1 (nI 0) mc no' (nowOf ra1) he pi' ot' bf ar md') (wC ad cI cZ tg fn ki nu fi se ju op en sm ob be af pl (nI 0) rp1 rs1 ra1 rb1 rl1 ++ wO o cJ (vp_updL g 0 (nI rs1).toInt64)) 574 rfl (m_thrown) gL_law_X5_thrown rfl (by decide +kernel) rfl ⟨(Nat.le_of_ble_eq_true rfl), (Nat.le_of_ble_eq_true rfl)⟩ rfl (Nat.le_of_ble_eq_true rfl) rfl rfl rfl dL_law_571 hcs2 rfl rfl ?_
        refine v_w (w' := wM bd cI cZ le la kd fs sc mi bh sm oo ie ob mp (nI 0) rp1 rs1 (nI 0) mc no' (nowOf ra1) he pi' ot' bf ar md' ++ (wC ad cI cZ tg fn ki nu fi se ju op en sm ob be af pl (nI 0) rp1 rs1 ra1 rb1 rl1 ++ wO o cJ (vp_updL g 0 (nI rs1).toInt64))) rfl ?_
        refine v_st (st' := [.int (nI 0)]) rfl ?_
        refine v_iload 576 rfl dL_law_574 rfl ?_
        refine v_icmp_eq 581 579 rfl dL_law_576 (by decide) (fun _ => ?_) (fun q => absurd rfl q)
        refine v_iload 583 rfl dL_law_581 rfl ?_
        refine v_if_ne 598 586 rfl dL_law_583 (by decide) (fun q => False.elim (absurd rfl q)) (fun _ => ?_)
        refine v_aload_n 587 rfl dL_law_586 rfl rfl ?_
        refine v_iconst (v := nI 0) 588 rfl dL_law_587 (by decide) ?_
        refine v_lald (v := (nI rs1).toInt64) 589 rfl 32 2 dL_law_588 rfl rfl (vp_in_nI (by decide) (by decide)) rfl ?_
        refine v_iload 591 rfl dL_law_589 rfl ?_
        refine v_i2l (v := ((nI rs1)).toInt64) 592 rfl dL_law_591 rfl ?_
        refine v_lcmp 593 rfl dL_law_592 ?_
        refine v_if_eq 598 596 rfl dL_law_593 (by decide) (fun _ => ?_) (fun q => False.elim (q (lg_cmp_self _)))
        refine v_goto 665 dL_law_598 (by decide) ?_
        refine v_lv (lv' := lvj j b (ad 0) (bd 0) o) [2, 3, 4, 5, 6] rfl ?_
        exact T tg fn ki nu fi se ju op en sm ob be af pl (nI 0) rp1 rs1 ra1 rb1 rl1 le la kd fs sc mi bh oo ie mp (nI 0) mc no' (nowOf ra1) he pi' ot' bf ar md' (vp_updL g 0 (nI rs1).toInt64) ⟨⟨tn, fb, htb⟩, hPR, hBe, hCh, ⟨k3, fun v hv => nowOf_at hv, fun j hj => nowOf_4 hj⟩, k4⟩
      · rw [if_neg hF] at hMr
        refine v_aload_n 534 rfl dL_law_533 rfl rfl ?_
        refine v_aload_n 535 rfl dL_law_534 rfl rfl ?_
        refine v_iload 537 rfl dL_law_535 rfl ?_
        refine v_iconst (v := nI 1) 538 rfl dL_law_537 (by decide) ?_
        refine v_iaddN (a := 5 * j) (b := 1) 539 rfl dL_law_538 ?_
        refine v_sld (i := 5 * j + 1) (v := xs (5 * j + 1)) 540 rfl dL_law_539 (by omega) (by omega) rfl ?_
        refine v_aload_n 541 rfl dL_law_540 rfl rfl ?_
        refine v_iload 543 rfl dL_law_541 rfl ?_
        refine v_iconst (v := nI 2) 544 rfl dL_law_543 (by decide) ?_
        refine v_iaddN (a := 5 * j) (b := 2) 545 rfl dL_law_544 ?_
        refine v_sld (i := 5 * j + 2) (v := nI n) 546 rfl dL_law_545 (by omega) (by omega) en1 ?_
        refine v_aload_n 547 rfl dL_law_546 rfl rfl ?_
        refine v_callY (As := [.ref (ad 0), .int (xs (5 * j + 1)), .int (nI n), .ref o]) (Lw := wM bd cI cZ le la kd fs sc mi bh sm oo ie ob mp rf rp rs mt mc no lf he pi ot bf ar md) (wc := wC ad cI cZ tg fn ki nu fi se ju op en sm ob be af pl rf rp rs ra rb rl ++ wO o cJ g) (wc' := wC ad cI cZ tg fn ki nu fi se ju op en sm ob be af pl (nI F) rp1 rs1 ra1 rb1 rl1 ++ wO o cJ g) (l_runT sa _ _ nISE 2 (Or.inr ⟨rfl, rfl⟩) (c_runISE hlT sa _ n F (by omega) hF hn1 h0 hM)) rfl ⟨(Nat.le_of_ble_eq_true rfl), (Nat.le_of_ble_eq_true rfl)⟩ rfl (Nat.le_of_ble_eq_true rfl) ⟨by show 33 + j + 1 ≤ 1060; omega, by show 1375 + 6 * j + 6 ≤ 9585; omega⟩ rfl ?_
        refine v_w (w' := wM bd cI cZ le la kd fs sc mi bh sm oo ie ob mp rf rp rs mt mc no lf he pi ot bf ar md ++ (wC ad cI cZ tg fn ki nu fi se ju op en sm ob be af pl (nI F) rp1 rs1 ra1 rb1 rl1 ++ wO o cJ g)) rfl ?_
        refine v_st (st' := [.int (nI 2)]) rfl ?_
        refine v_istore (lv' := [(5, .int (nI 2)), (4, .int (nI (5 * j))), (0, .ref b), (1, .ref (ad 0)), (2, .ref (bd 0)), (3, .ref o)]) 552 rfl dL_law_550 (Nat.le_of_ble_eq_true rfl) rfl ?_
        refine v_aload_n 553 rfl dL_law_552 rfl rfl ?_
        refine v_aload_n 554 rfl dL_law_553 rfl rfl ?_
        refine v_iload 556 rfl dL_law_554 rfl ?_
        refine v_iconst (v := nI 1) 557 rfl dL_law_556 (by decide) ?_
        refine v_iaddN (a := 5 * j) (b := 1) 558 rfl dL_law_557 ?_
        refine v_sld (i := 5 * j + 1) (v := xs (5 * j + 1)) 559 rfl dL_law_558 (by omega) (by omega) rfl ?_
        refine v_aload_n 560 rfl dL_law_559 rfl rfl ?_
        refine v_iload 562 rfl dL_law_560 rfl ?_
        refine v_iconst (v := nI 2) 563 rfl dL_law_562 (by decide) ?_
        refine v_iaddN (a := 5 * j) (b := 2) 564 rfl dL_law_563 ?_
        refine v_sld (i := 5 * j + 2) (v := nI n) 565 rfl dL_law_564 (by omega) (by omega) en1 ?_
        refine v_callVE (n := 2) (q0 := 0) (ci := 5) (C := RX5) (As := [.int (xs (5 * j + 1)), .int (nI n)]) ([]) (wM bd cI cZ le la kd fs sc mi bh sm oo ie ob mp rf rp rs mt mc no lf he pi ot bf ar md) (wC ad cI cZ tg fn ki nu fi se ju op en sm ob be af pl (nI F) rp1 rs1 ra1 rb1 rl1 ++ wO o cJ g) 568 rfl (hMr) gL_law_X5_run rfl (by decide +kernel) rfl ⟨(Nat.le_of_ble_eq_true rfl), (Nat.le_of_ble_eq_true rfl)⟩ rfl (Nat.le_of_ble_eq_true rfl) rfl rfl rfl dL_law_565 hcs2 (by rintro _ _ ⟨rfl, no', pi', ot', md', k4, rfl⟩; rfl) rfl ?_
        rintro _ _ ⟨rfl, no', pi', ot', md', k4, rfl⟩
        refine v_w (w' := wM bd cI cZ le la kd fs sc mi bh sm oo ie ob mp (nI F) rp1 rs1 (nI 2) mc no' (nowOf ra1) he pi' ot' bf ar md' ++ (wC ad cI cZ tg fn ki nu fi se ju op en sm ob be af pl (nI F) rp1 rs1 ra1 rb1 rl1 ++ wO o cJ g)) rfl ?_
        refine v_st (st' := [.int (nI rs1)]) rfl ?_
        refine v_istore (lv' := [(6, .int (nI rs1)), (5, .int (nI 2)), (4, .int (nI (5 * j))), (0, .ref b), (1, .ref (ad 0)), (2, .ref (bd 0)), (3, .ref o)]) 570 rfl dL_law_568 (Nat.le_of_ble_eq_true rfl) rfl ?_
        refine v_aload_n 571 rfl dL_law_570 rfl rfl ?_
        refine v_callV (n := 0) (q0 := 0) (ci := 5) (C := RX5) (As := []) ([]) (wM bd cI cZ le la kd fs sc mi bh sm oo ie ob mp (nI F) rp1 rs1 (nI 2) mc no' (nowOf ra1) he pi' ot' bf ar md') (wM bd cI cZ le la kd fs sc mi bh sm oo ie ob mp (nI F) rp1 rs1 (nI 2) mc no' (nowOf ra1) he pi' ot' bf ar md') (wC ad cI cZ tg fn ki nu fi se ju op en sm ob be af pl (nI F) rp1 rs1 ra1 rb1 rl1 ++ wO o cJ g) 574 rfl (m_thrown) gL_law_X5_thrown rfl (by decide +kernel) rfl ⟨(Nat.le_of_ble_eq_true rfl), (Nat.le_of_ble_eq_true rfl)⟩ rfl (Nat.le_of_ble_eq_true rfl) rfl rfl rfl dL_law_571 hcs2 rfl rfl ?_
        refine v_w (w' := wM bd cI cZ le la kd fs sc mi bh sm oo ie ob mp (nI F) rp1 rs1 (nI 2) mc no' (nowOf ra1) he pi' ot' bf ar md' ++ (wC ad cI cZ tg fn ki nu fi se ju op en sm ob be af pl (nI F) rp1 rs1 ra1 rb1 rl1 ++ wO o cJ g)) rfl ?_
        refine v_st (st' := [.int (nI 2)]) rfl ?_
        refine v_iload 576 rfl dL_law_574 rfl ?_
        refine v_icmp_eq 581 579 rfl dL_law_576 (by decide) (fun _ => ?_) (fun q => absurd rfl q)
        refine v_iload 583 rfl dL_law_581 rfl ?_
        refine v_if_ne 598 586 rfl dL_law_583 (by decide) (fun _ => ?_) (fun q => False.elim (absurd q (by decide)))
        refine v_goto 665 dL_law_598 (by decide) ?_
        refine v_lv (lv' := lvj j b (ad 0) (bd 0) o) [2, 3, 4, 5, 6] rfl ?_
        exact T tg fn ki nu fi se ju op en sm ob be af pl (nI F) rp1 rs1 ra1 rb1 rl1 le la kd fs sc mi bh oo ie mp (nI 2) mc no' (nowOf ra1) he pi' ot' bf ar md' g ⟨⟨tn, fb, htb⟩, hPR, hBe, hCh, ⟨k3, fun v hv => nowOf_at hv, fun j hj => nowOf_4 hj⟩, k4⟩
    · skip
      refine v_aload_n 534 rfl dL_law_533 rfl rfl ?_
      refine v_aload_n 535 rfl dL_law_534 rfl rfl ?_
      refine v_iload 537 rfl dL_law_535 rfl ?_
      refine v_iconst (v := nI 1) 538 rfl dL_law_537 (by decide) ?_
      refine v_iaddN (a := 5 * j) (b := 1) 539 rfl dL_law_538 ?_
      refine v_sld (i := 5 * j + 1) (v := xs (5 * j + 1)) 540 rfl dL_law_539 (by omega) (by omega) rfl ?_
      refine v_aload_n 541 rfl dL_law_540 rfl rfl ?_
      refine v_iload 543 rfl dL_law_541 rfl ?_
      refine v_iconst (v := nI 2) 544 rfl dL_law_543 (by decide) ?_
      refine v_iaddN (a := 5 * j) (b := 2) 545 rfl dL_law_544 ?_
      refine v_sld (i := 5 * j + 2) (v := nI n) 546 rfl dL_law_545 (by omega) (by omega) en1 ?_
      refine v_aload_n 547 rfl dL_law_546 rfl rfl ?_
      refine v_callY (As := [.ref (ad 0), .int (xs (5 * j + 1)), .int (nI n), .ref o]) (Lw := wM bd cI cZ le la kd fs sc mi bh sm oo ie ob mp rf rp rs mt mc no lf he pi ot bf ar md) (wc := wC ad cI cZ tg fn ki nu fi se ju op en sm ob be af pl rf rp rs ra rb rl ++ wO o cJ g) (wc' := wC ad cI cZ tg fn ki nu fi se ju op en sm ob be af pl rf rp rs ra rb rl ++ wO o cJ g) (l_runT sa _ _ nIAE 1 (Or.inl ⟨rfl, rfl⟩) (c_runIAE2 hlT sa _ n hn1 h0 ho6)) rfl ⟨(Nat.le_of_ble_eq_true rfl), (Nat.le_of_ble_eq_true rfl)⟩ rfl (Nat.le_of_ble_eq_true rfl) ⟨by show 33 + j + 1 ≤ 1060; omega, by show 1375 + 6 * j + 6 ≤ 9585; omega⟩ rfl ?_
      refine v_w (w' := wM bd cI cZ le la kd fs sc mi bh sm oo ie ob mp rf rp rs mt mc no lf he pi ot bf ar md ++ (wC ad cI cZ tg fn ki nu fi se ju op en sm ob be af pl rf rp rs ra rb rl ++ wO o cJ g)) rfl ?_
      refine v_st (st' := [.int (nI 1)]) rfl ?_
      refine v_istore (lv' := [(5, .int (nI 1)), (4, .int (nI (5 * j))), (0, .ref b), (1, .ref (ad 0)), (2, .ref (bd 0)), (3, .ref o)]) 552 rfl dL_law_550 (Nat.le_of_ble_eq_true rfl) rfl ?_
      refine v_aload_n 553 rfl dL_law_552 rfl rfl ?_
      refine v_aload_n 554 rfl dL_law_553 rfl rfl ?_
      refine v_iload 556 rfl dL_law_554 rfl ?_
      refine v_iconst (v := nI 1) 557 rfl dL_law_556 (by decide) ?_
      refine v_iaddN (a := 5 * j) (b := 1) 558 rfl dL_law_557 ?_
      refine v_sld (i := 5 * j + 1) (v := xs (5 * j + 1)) 559 rfl dL_law_558 (by omega) (by omega) rfl ?_
      refine v_aload_n 560 rfl dL_law_559 rfl rfl ?_
      refine v_iload 562 rfl dL_law_560 rfl ?_
      refine v_iconst (v := nI 2) 563 rfl dL_law_562 (by decide) ?_
      refine v_iaddN (a := 5 * j) (b := 2) 564 rfl dL_law_563 ?_
      refine v_sld (i := 5 * j + 2) (v := nI n) 565 rfl dL_law_564 (by omega) (by omega) en1 ?_
      refine v_callVE (n := 2) (q0 := 0) (ci := 5) (C := RX5) (As := [.int (xs (5 * j + 1)), .int (nI n)]) ([]) (wM bd cI cZ le la kd fs sc mi bh sm oo ie ob mp rf rp rs mt mc no lf he pi ot bf ar md) (wC ad cI cZ tg fn ki nu fi se ju op en sm ob be af pl rf rp rs ra rb rl ++ wO o cJ g) 568 rfl (m_rnNo _ _ ho6 (Or.inr (Or.inr h0))) gL_law_X5_run rfl (by decide +kernel) rfl ⟨(Nat.le_of_ble_eq_true rfl), (Nat.le_of_ble_eq_true rfl)⟩ rfl (Nat.le_of_ble_eq_true rfl) rfl rfl rfl dL_law_565 hcs2 (by rintro _ _ ⟨rfl, rfl⟩; rfl) rfl ?_
      rintro _ _ ⟨rfl, rfl⟩
      refine v_w (w' := wM bd cI cZ le la kd fs sc mi bh sm oo ie ob mp rf rp rs (nI 1) mc no lf he pi ot bf ar md ++ (wC ad cI cZ tg fn ki nu fi se ju op en sm ob be af pl rf rp rs ra rb rl ++ wO o cJ g)) rfl ?_
      refine v_st (st' := [.int (nI 0)]) rfl ?_
      refine v_istore (lv' := [(6, .int (nI 0)), (5, .int (nI 1)), (4, .int (nI (5 * j))), (0, .ref b), (1, .ref (ad 0)), (2, .ref (bd 0)), (3, .ref o)]) 570 rfl dL_law_568 (Nat.le_of_ble_eq_true rfl) rfl ?_
      refine v_aload_n 571 rfl dL_law_570 rfl rfl ?_
      refine v_callV (n := 0) (q0 := 0) (ci := 5) (C := RX5) (As := []) ([]) (wM bd cI cZ le la kd fs sc mi bh sm oo ie ob mp rf rp rs (nI 1) mc no lf he pi ot bf ar md) (wM bd cI cZ le la kd fs sc mi bh sm oo ie ob mp rf rp rs (nI 1) mc no lf he pi ot bf ar md) (wC ad cI cZ tg fn ki nu fi se ju op en sm ob be af pl rf rp rs ra rb rl ++ wO o cJ g) 574 rfl (m_thrown) gL_law_X5_thrown rfl (by decide +kernel) rfl ⟨(Nat.le_of_ble_eq_true rfl), (Nat.le_of_ble_eq_true rfl)⟩ rfl (Nat.le_of_ble_eq_true rfl) rfl rfl rfl dL_law_571 hcs2 rfl rfl ?_
      refine v_w (w' := wM bd cI cZ le la kd fs sc mi bh sm oo ie ob mp rf rp rs (nI 1) mc no lf he pi ot bf ar md ++ (wC ad cI cZ tg fn ki nu fi se ju op en sm ob be af pl rf rp rs ra rb rl ++ wO o cJ g)) rfl ?_
      refine v_st (st' := [.int (nI 1)]) rfl ?_
      refine v_iload 576 rfl dL_law_574 rfl ?_
      refine v_icmp_eq 581 579 rfl dL_law_576 (by decide) (fun _ => ?_) (fun q => absurd rfl q)
      refine v_iload 583 rfl dL_law_581 rfl ?_
      refine v_if_ne 598 586 rfl dL_law_583 (by decide) (fun _ => ?_) (fun q => False.elim (absurd q (by decide)))
      refine v_goto 665 dL_law_598 (by decide) ?_
      refine v_lv (lv' := lvj j b (ad 0) (bd 0) o) [2, 3, 4, 5, 6] rfl ?_
      exact T tg fn ki nu fi se ju op en sm ob be af pl rf rp rs ra rb rl le la kd fs sc mi bh oo ie mp (nI 1) mc no lf he pi ot bf ar md g ⟨⟨tn, fb, htb⟩, hPR, hBe, hCh, hLf, hno⟩