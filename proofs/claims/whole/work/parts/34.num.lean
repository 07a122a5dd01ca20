/-! TARGETS: what bits mean -/
def tgt (v : Nat) : Nat := v % 8388608 * 2 ^ (8 * (v / 16777216)) / 2 ^ 24
theorem pw_ge {m a b : Nat} (h : b ≤ a) : m * 2 ^ a / 2 ^ b = m * 2 ^ (a - b) := by
  have e : 2 ^ a = 2 ^ (a - b) * 2 ^ b := by rw [← Nat.pow_add]; congr 1; omega
  rw [e, ← Nat.mul_assoc, Nat.mul_div_cancel _ (Nat.pow_pos (by omega))]
theorem pw_lt {m a b : Nat} (h : a ≤ b) : m * 2 ^ a / 2 ^ b = m / 2 ^ (b - a) := by
  have e : 2 ^ b = 2 ^ (b - a) * 2 ^ a := by rw [← Nat.pow_add]; congr 1; omega
  rw [e, Nat.mul_div_mul_right _ _ (Nat.pow_pos (by omega))]
theorem pw_mod0 {m a b : Nat} (h : b ≤ a) : m * 2 ^ a % 2 ^ b = 0 := by
  have e : 2 ^ a = 2 ^ (a - b) * 2 ^ b := by rw [← Nat.pow_add]; congr 1; omega
  rw [e, ← Nat.mul_assoc, Nat.mul_mod_left]
theorem pw_div0 {m c k : Nat} (hm : m < 2 ^ k) (h : k ≤ c) : m / 2 ^ c = 0 := Nat.div_eq_of_lt (Nat.lt_of_lt_of_le hm (Nat.pow_le_pow_right (by omega) h))
theorem tgt_div {v c : Nat} : tgt v / 2 ^ c = v % 8388608 * 2 ^ (8 * (v / 16777216)) / 2 ^ (24 + c) := by
  unfold tgt; rw [Nat.div_div_eq_div_mul, ← Nat.pow_add]
theorem tp_E : ∀ s, s < 256 → ∀ k, k < 4 → nI 8 * (nI s - nI 3) - nI 64 * (nI 3 - nI k) = if 216 ≤ 8 * s + 64 * k then nI (8 * s + 64 * k - 216) else -(nI (216 - (8 * s + 64 * k))) := by decide +kernel
theorem tp_N : ∀ c, c < 217 → 0 < c → (¬ nI 64 ≤ -(nI c)) ∧ ((-64 < -(nI c)) ↔ c < 64) ∧ -(nI c) < 0 ∧ -(-(nI c)) = nI c := by decide +kernel
theorem tp_P : ∀ c, c < 64 → (-64 < nI c) ∧ ¬ nI c < 0 := by decide +kernel
theorem l_us24 {v : Nat} (hv : v < 4294967296) : (j_ushr (lN v) (nI 24)).toInt32 = nI (v / 16777216) := by
  unfold j_ushr
  have h : ((lN v).toUInt64 >>> ((nI 24).toInt64.toUInt64 &&& Int64.toUInt64 63)).toInt64 = lN (v / 2 ^ 24) := wb_shr (by omega) (by omega)
  rw [h, lN_i]
theorem l_and23 {v : Nat} (hv : v < 4294967296) : lN v &&& 8388607 = lN (v % 8388608) := by
  show lN v &&& lN 8388607 = _
  exact g_mask (p := 8388608) (s := 23) rfl (by omega) (by omega)
theorem m_shift_V {v : Nat} (hv : v < 4294967296) : m_shift (lN v) = nI 8 * (nI (v / 16777216) - nI 3) := by unfold m_shift; rw [l_us24 hv]
theorem m_tp_V {v k : Nat} (hv : v < 4294967296) (hk : k < 4) : m_tp (lN v) (nI k) = lN (tgt v / 2 ^ (64 * (3 - k)) % 2 ^ 64) := by
  have hm : v % 8388608 < 2 ^ 23 := Nat.mod_lt _ (by omega)
  have hE := tp_E (v / 16777216) (by omega) k hk
  unfold m_tp
  rw [m_shift_V hv, l_and23 hv, hE, tgt_div, show 24 + 64 * (3 - k) = 216 - 64 * k by omega]
  generalize v % 8388608 = m at *
  generalize hs : v / 16777216 = s at *
  by_cases c : 216 ≤ 8 * s + 64 * k
  · rw [if_pos c, pw_ge (show 216 - 64 * k ≤ 8 * s by omega), show 8 * s - (216 - 64 * k) = 8 * s + 64 * k - 216 by omega]
    generalize hx : 8 * s + 64 * k - 216 = x
    have hx2 : x < 2 ^ 20 := by omega
    by_cases c2 : 64 ≤ x
    · rw [if_pos (nI_le c2 (by omega)), pw_mod0 c2]; rfl
    · rw [if_neg (nI_ge (by omega) (by omega)), if_pos (tp_P x (by omega)).1, if_neg (tp_P x (by omega)).2]
      unfold j_shl
      rw [wb_shl m (by omega), wb_mod]
  · rw [if_neg c, pw_lt (show 8 * s ≤ 216 - 64 * k by omega), show 216 - 64 * k - 8 * s = 216 - (8 * s + 64 * k) by omega]
    generalize hx : 216 - (8 * s + 64 * k) = x
    obtain ⟨n1, n2, n3, n4⟩ := tp_N x (by omega) (by omega)
    have hd : m / 2 ^ x ≤ m := Nat.div_le_self _ _
    rw [if_neg n1, Nat.mod_eq_of_lt (by omega)]
    by_cases c2 : x < 64
    · rw [if_pos (n2.mpr c2), if_pos n3, n4]
      unfold j_ushr
      exact wb_shr (by omega) c2
    · rw [if_neg (fun q => c2 (n2.mp q)), pw_div0 hm (by omega)]; rfl
theorem m_th_V {v i : Nat} (hv : v < 4294967296) (hi : i < 8) : m_th (lN v) i = lN (tgt v / 4294967296 ^ (7 - i) % 4294967296) ∧ tgt v / 4294967296 ^ (7 - i) % 4294967296 < 4294967296 := by
  refine ⟨?_, Nat.mod_lt _ (by omega)⟩
  have e2 : (4294967296 : Nat) = 2 ^ 32 := rfl
  unfold m_th
  rw [m_tp_V hv (show i / 2 < 4 by omega)]
  have hb : tgt v / 2 ^ (64 * (3 - i / 2)) % 2 ^ 64 < 2 ^ 64 := Nat.mod_lt _ (by omega)
  by_cases c : i % 2 = 0
  · rw [if_pos c, l_us32 hb]
    have e : tgt v / 4294967296 ^ (7 - i) % 4294967296 = tgt v / 2 ^ (64 * (3 - i / 2)) % 2 ^ 64 / 4294967296 := by
      rw [e2, ← Nat.pow_mul, show 32 * (7 - i) = 64 * (3 - i / 2) + 32 by omega, Nat.pow_add, ← Nat.div_div_eq_div_mul, show (2 : Nat) ^ 64 = 2 ^ 32 * 2 ^ 32 from rfl, Nat.mod_mul_right_div_self]
    rw [e]
  · rw [if_neg c, l_and32 hb]
    have e : tgt v / 4294967296 ^ (7 - i) % 4294967296 = tgt v / 2 ^ (64 * (3 - i / 2)) % 2 ^ 64 % 4294967296 := by
      rw [e2, ← Nat.pow_mul, show 32 * (7 - i) = 64 * (3 - i / 2) by omega, show (2 : Nat) ^ 64 = 2 ^ 32 * 2 ^ 32 from rfl, Nat.mod_mul_right_mod]
    rw [e]
theorem vV_dig {N n : Nat} {h : Nat → Nat} (hh : ∀ i, i < n → h i = N / 4294967296 ^ (n - 1 - i) % 4294967296) : ∀ {k : Nat}, k ≤ n → vV h k = N / 4294967296 ^ (n - k) % 4294967296 ^ k := by
  intro k
  induction k with
  | zero => intro _; simp [vV, Nat.mod_one]
  | succ k ih =>
    intro hk
    rw [vV, ih (by omega), hh k (by omega), Nat.pow_succ, Nat.mul_comm (4294967296 ^ k), Nat.mod_mul, show n - k = (n - (k + 1)) + 1 by omega, Nat.pow_succ, ← Nat.div_div_eq_div_mul, show n - 1 - k = n - (k + 1) by omega, Nat.mul_comm, Nat.add_comm]
theorem op_d {v : Nat} {α : Nat → Nat} (hv : v < 4294967296) : ∀ i, i < 40 → r_open v α i = tgt v / 256 ^ i % 256 := by
  intro i hi
  have hm : v % 8388608 < 2 ^ 23 := Nat.mod_lt _ (by omega)
  have e8 : (256 : Nat) ^ i = 2 ^ (8 * i) := by rw [Nat.pow_mul]
  rw [e8, tgt_div]
  have e0 : r_open v α = r_open1 (v / 16777216) (v % 8388608) 2 (r_open1 (v / 16777216) (v % 8388608) 1 (r_open1 (v / 16777216) (v % 8388608) 0 (zN α 40))) := rfl
  rw [e0]
  generalize v % 8388608 = m at *
  generalize v / 16777216 = s at *
  have ho : ∀ (k : Nat) (f : Nat → Nat), r_open1 s m k f i = if s + k = i + 3 then m / 2 ^ (8 * k) % 256 else f i := by
    intro k f
    unfold r_open1
    by_cases h1 : s + k < 3
    · rw [if_pos h1, if_neg (by omega)]
    · rw [if_neg h1]
      by_cases h2 : s + k - 3 < 40
      · rw [if_pos h2]
        by_cases h3 : s + k = i + 3
        · rw [if_pos h3, show s + k - 3 = i by omega, updN_same]
        · rw [if_neg h3, updN_ne (by omega)]
      · rw [if_neg h2, if_neg (by omega)]
  rw [ho, ho, ho]
  have hz : zN α 40 i = 0 := by unfold zN; rw [if_pos hi]
  rw [hz]
  by_cases h2 : s + 2 = i + 3
  · rw [if_pos h2, pw_lt (by omega), show 24 + 8 * i - 8 * s = 8 * 2 by omega]
  · rw [if_neg h2]
    by_cases h1 : s + 1 = i + 3
    · rw [if_pos h1, pw_lt (by omega), show 24 + 8 * i - 8 * s = 8 * 1 by omega]
    · rw [if_neg h1]
      by_cases h0 : s + 0 = i + 3
      · rw [if_pos h0, pw_lt (by omega), show 24 + 8 * i - 8 * s = 8 * 0 by omega]
      · rw [if_neg h0]
        rcases Nat.lt_or_ge (i + 3) s with g | g
        · rw [pw_ge (by omega)]
          exact (pw_mod0 (b := 8) (by omega)).symm
        · rw [pw_lt (by omega), pw_div0 hm (by omega)]
theorem op_V {v : Nat} {α : Nat → Nat} (hv : v < 4294967296) (hT : tgt v < 256 ^ 40) : sV (r_open v α) 0 40 = tgt v := by
  rw [sV_dig (N := tgt v) (fun j _ h => op_d hv j (by omega)), Nat.pow_zero, Nat.div_one, Nat.mod_eq_of_lt hT]
