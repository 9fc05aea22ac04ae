/-- what variable v holds in the packed number A: 0 nothing, else the object and 1 -/
def hb (A v : Nat) : Nat := A / 2 ^ (5 * v) % 32
/-- variable v is made to hold n -/
def wh (A v n : Nat) : Nat := A - hb A v * 2 ^ (5 * v) + n * 2 ^ (5 * v)
theorem hb_lt (A v : Nat) : hb A v < 32 := Nat.mod_lt _ (by decide)
theorem sh_u : ∀ v, v < 4 → (((nI (5 * v)).toUInt32 &&& Int32.toUInt32 31).toBitVec % 32).toNat = 5 * v := by decide
theorem sh_s : ∀ v, v < 4 → ((nI (5 * v) &&& 31).toBitVec.smod 32).toNat = 5 * v := by decide
theorem hb_raw {A v : Nat} (hA : A < 2 ^ 20) (hv : v < 4) : ((nI A).toUInt32 >>> ((nI (5 * v)).toUInt32 &&& Int32.toUInt32 31)).toInt32 = nI (A / 2 ^ (5 * v)) := pk_ushrN (by omega) _ _ (sh_u v hv)
theorem hb_and {A v : Nat} (hA : A < 2 ^ 20) : nI (A / 2 ^ (5 * v)) &&& nI 31 = nI (hb A v) := pk_andN (by have := Nat.div_le_self A (2 ^ (5 * v)); omega) 5 (by decide)
theorem wh_lt {A v n : Nat} (hA : A < 2 ^ 20) (hv : v < 4) (hn : n < 32) : wh A v n < 2 ^ 20 := by
  unfold wh hb
  rcases (show v = 0 ∨ v = 1 ∨ v = 2 ∨ v = 3 by omega) with rfl | rfl | rfl | rfl <;> simp <;> omega
theorem hb_wh_same {A v n : Nat} (hA : A < 2 ^ 20) (hv : v < 4) (hn : n < 32) : hb (wh A v n) v = n := by
  unfold wh hb
  rcases (show v = 0 ∨ v = 1 ∨ v = 2 ∨ v = 3 by omega) with rfl | rfl | rfl | rfl <;> simp <;> omega
theorem hb_wh_ne {A v u n : Nat} (hA : A < 2 ^ 20) (hv : v < 4) (hu : u < 4) (hn : n < 32) (hne : u ≠ v) : hb (wh A v n) u = hb A u := by
  unfold wh hb
  rcases (show v = 0 ∨ v = 1 ∨ v = 2 ∨ v = 3 by omega) with rfl | rfl | rfl | rfl <;> rcases (show u = 0 ∨ u = 1 ∨ u = 2 ∨ u = 3 by omega) with rfl | rfl | rfl | rfl <;> first | exact absurd rfl hne | (simp; omega)
theorem hb_ext {A B : Nat} (hA : A < 2 ^ 20) (hB : B < 2 ^ 20) (h : ∀ v, v < 4 → hb A v = hb B v) : A = B := by
  have h0 := h 0 (by omega); have h1 := h 1 (by omega); have h2 := h 2 (by omega); have h3 := h 3 (by omega)
  simp [hb] at h0 h1 h2 h3
  omega
theorem hb_zero (v : Nat) : hb 0 v = 0 := by simp [hb]
theorem and_split {k a b c e : Nat} (hb : b < 2 ^ k) (he : e < 2 ^ k) : (2 ^ k * a + b) &&& (2 ^ k * c + e) = 2 ^ k * (a &&& c) + (b &&& e) := by
  apply Nat.eq_of_testBit_eq
  intro j
  rw [Nat.testBit_and, Nat.testBit_two_pow_mul_add _ hb, Nat.testBit_two_pow_mul_add _ he, Nat.testBit_two_pow_mul_add _ (Nat.lt_of_le_of_lt Nat.and_le_left hb)]
  by_cases h : j < k <;> simp [h, Nat.testBit_and]
theorem or_split {k a b c e : Nat} (hb : b < 2 ^ k) (he : e < 2 ^ k) : (2 ^ k * a + b) ||| (2 ^ k * c + e) = 2 ^ k * (a ||| c) + (b ||| e) := by
  apply Nat.eq_of_testBit_eq
  intro j
  rw [Nat.testBit_or, Nat.testBit_two_pow_mul_add _ hb, Nat.testBit_two_pow_mul_add _ he, Nat.testBit_two_pow_mul_add _ (Nat.or_lt_two_pow hb he)]
  by_cases h : j < k <;> simp [h, Nat.testBit_or]
theorem wh_bits {hi d lo n p k MH : Nat} (hlo : lo < 2 ^ p) (hd : d < 2 ^ 5) (hn : n < 2 ^ 5) (hM : MH = 2 ^ k - 1) (hhi : hi < 2 ^ k) : ((2 ^ p * (2 ^ 5 * hi + d) + lo) &&& (2 ^ p * (2 ^ 5 * MH + 0) + (2 ^ p - 1))) ||| (2 ^ p * (2 ^ 5 * 0 + n) + 0) = 2 ^ p * (2 ^ 5 * hi + n) + lo := by
  have hp : 2 ^ p - 1 < 2 ^ p := by have := Nat.pow_pos (n := p) (show 0 < 2 by decide); omega
  have h0 : 0 < 2 ^ p := Nat.pow_pos (by decide)
  rw [and_split hlo hp, and_split hd (by decide), hM, Nat.and_two_pow_sub_one_eq_mod, Nat.and_two_pow_sub_one_eq_mod, Nat.mod_eq_of_lt hlo, Nat.mod_eq_of_lt hhi, or_split hlo h0, or_split (by rw [Nat.and_zero]; decide) hn]
  simp
theorem nx_and2 (a b : Nat) : nI a &&& nI b = nI (a &&& b) := by
  apply Int32.toBitVec_inj.mp
  simp [nI, BitVec.ofNat_and]
theorem nx_or2 (a b : Nat) : nI a ||| nI b = nI (a ||| b) := by
  apply Int32.toBitVec_inj.mp
  simp [nI, BitVec.ofNat_or]
theorem m_c : ∀ v, v < 4 → (nI 31 <<< (nI (5 * v) &&& 31)) ^^^ (-1) = nI (2 ^ (5 * v) * (2 ^ 5 * (2 ^ (27 - 5 * v) - 1) + 0) + (2 ^ (5 * v) - 1)) := by decide
theorem wh_raw {A v n : Nat} (hA : A < 2 ^ 20) (hv : v < 4) (hn : n < 32) : (nI A &&& ((nI 31 <<< (nI (5 * v) &&& 31)) ^^^ (-1))) ||| (nI n <<< (nI (5 * v) &&& 31)) = nI (wh A v n) := by
  rw [m_c v hv, pk_shlN (nI (5 * v) &&& 31) (5 * v) (sh_s v hv) (by rcases (show v = 0 ∨ v = 1 ∨ v = 2 ∨ v = 3 by omega) with rfl | rfl | rfl | rfl <;> simp <;> omega), nx_and2, nx_or2]
  congr 1
  have e1 : A = 2 ^ (5 * v) * (2 ^ 5 * (A / 2 ^ (5 * v) / 32) + A / 2 ^ (5 * v) % 32) + A % 2 ^ (5 * v) := by
    have a1 := Nat.div_add_mod A (2 ^ (5 * v))
    have a2 := Nat.div_add_mod (A / 2 ^ (5 * v)) 32
    rw [show (2 : Nat) ^ 5 = 32 from rfl, a2, a1]
  have e2 : n * 2 ^ (5 * v) = 2 ^ (5 * v) * (2 ^ 5 * 0 + n) + 0 := by simp [Nat.mul_comm]
  have hw := wh_bits (hi := A / 2 ^ (5 * v) / 32) (d := A / 2 ^ (5 * v) % 32) (lo := A % 2 ^ (5 * v)) (n := n) (p := 5 * v) (k := 27 - 5 * v) (MH := 2 ^ (27 - 5 * v) - 1) (Nat.mod_lt _ (Nat.pow_pos (by decide))) (Nat.mod_lt _ (by decide)) hn rfl (by rcases (show v = 0 ∨ v = 1 ∨ v = 2 ∨ v = 3 by omega) with rfl | rfl | rfl | rfl <;> simp <;> omega)
  rw [← e1, ← e2] at hw
  rw [hw]
  unfold wh hb
  rcases (show v = 0 ∨ v = 1 ∨ v = 2 ∨ v = 3 by omega) with rfl | rfl | rfl | rfl <;> simp <;> omega
