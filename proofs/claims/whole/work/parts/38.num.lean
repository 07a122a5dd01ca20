/-! GOOD BITS: what the blocks' bits keep -/
theorem sV_split {α : Nat → Nat} : ∀ {a i b : Nat}, sV α i (a + b) = sV α i a + 256 ^ a * sV α (i + a) b := by
  intro a
  induction a with
  | zero => intro i b; rw [Nat.zero_add, Nat.pow_zero, Nat.one_mul, sV, Nat.zero_add, Nat.add_zero]
  | succ a ih =>
    intro i b
    have e : a + 1 + b = (a + b) + 1 := by omega
    have e2 : 256 ^ a * 256 * sV α (i + (a + 1)) b = 256 * (256 ^ a * sV α (i + (a + 1)) b) := by rw [Nat.mul_comm (256 ^ a) 256, Nat.mul_assoc]
    rw [e, sV, ih, sV, Nat.pow_succ, show i + 1 + a = i + (a + 1) by omega, e2]
    omega
theorem sV_0 {α : Nat → Nat} : ∀ {d i : Nat}, (∀ j, i ≤ j → j < i + d → α j = 0) → sV α i d = 0 := by
  intro d
  induction d with
  | zero => intro i _; rfl
  | succ d ih => intro i h; rw [sV, h i (by omega) (by omega), ih (fun j a b => h j (by omega) (by omega))]
theorem ar_g1 {N lo X m : Nat} (h : N = lo + X * m) (hlo : lo < X) (hm : 1 ≤ m) : m * X ≤ N ∧ N < 2 * (m * X) := by
  have e : X * m = m * X := Nat.mul_comm _ _
  have h2 : 1 * X ≤ m * X := Nat.mul_le_mul_right _ hm
  rw [e] at h
  omega
theorem ar_g2 {N lo X m : Nat} (h : N = lo + X * m) (hlo : lo < X) (hm : 256 ≤ m) : m / 256 * (X * 256) ≤ N ∧ N < 2 * (m / 256 * (X * 256)) := by
  have h1 : m / 256 * 256 + m % 256 = m := by omega
  have e1 : m / 256 * (X * 256) = X * (m / 256 * 256) := by rw [Nat.mul_comm X 256, ← Nat.mul_assoc, Nat.mul_comm]
  have e2 : X * m = X * (m / 256 * 256) + X * (m % 256) := by rw [← Nat.mul_add, h1]
  have h3 : X * (m % 256 + 1) ≤ X * (m / 256 * 256) := Nat.mul_le_mul_left _ (by omega)
  rw [Nat.mul_add, Nat.mul_one] at h3
  rw [e1]
  omega
theorem cpt_V {α : Nat → Nat} (h8 : by8 α) {N n : Nat} (hn : n = 40) (hN : sV α 0 n = N) (h1 : 2 ^ 100 ≤ N) (h2 : N < 2 ^ 256) : r_compact α < 4294967296 ∧ tgt (r_compact α) ≤ N ∧ N < 2 * tgt (r_compact α) := by
  obtain ⟨b1, b2, b3⟩ := bytes_V (α := α) (d := n) (i := 0) (z := 0) (Nat.le_refl _) (fun j h1 h2 => by omega) (Or.inl rfl)
  rw [Nat.zero_add] at b1 b2
  have hz32 : r_bytes α n 0 0 ≤ 32 := by
    rcases b3 with h | h
    · omega
    · rcases Nat.lt_or_ge 32 (r_bytes α n 0 0) with g | g
      · exact absurd (hi_0 hn h8 hN h2 (r_bytes α n 0 0 - 1) (by omega) (by omega)) h
      · exact g
  unfold r_compact
  rw [← hn]
  generalize hzz : r_bytes α n 0 0 = z at *
  -- the number in its first z bytes
  have s1 : sV α 0 z = N := by
    have := sV_split (α := α) (a := z) (i := 0) (b := n - z)
    rw [show z + (n - z) = n by omega, hN, Nat.zero_add, sV_0 (fun j a b => b2 j a (by omega)), Nat.mul_zero, Nat.add_zero] at this
    exact this.symm
  have hz13 : 3 < z := by
    rcases Nat.lt_or_ge 3 z with g | g
    · exact g
    · exfalso
      have q := sV_lt h8 (d := z) (i := 0)
      rw [s1] at q
      have : (256 : Nat) ^ z ≤ 256 ^ 3 := Nat.pow_le_pow_right (by omega) g
      have h3 : (256 : Nat) ^ 3 < 2 ^ 100 := by decide
      omega
  have s2 : N = sV α 0 (z - 3) + 256 ^ (z - 3) * sV α (z - 3) 3 := by
    have := sV_split (α := α) (a := z - 3) (i := 0) (b := 3)
    rw [show z - 3 + 3 = z by omega, s1, Nat.zero_add] at this
    exact this
  have hlo := sV_lt h8 (d := z - 3) (i := 0)
  have s3 : sV α (z - 3) 3 = α (z - 3) + 256 * (α (z - 2) + 256 * α (z - 1)) := by
    show α (z - 3) + 256 * (α (z - 3 + 1) + 256 * (α (z - 3 + 1 + 1) + 256 * 0)) = _
    rw [show z - 3 + 1 = z - 2 by omega, show z - 2 + 1 = z - 1 by omega, Nat.mul_zero, Nat.add_zero]
  have er : r_cm α z 3 1 0 = sV α (z - 3) 3 := by
    have e0 : r_cm α z 3 1 0 = ((0 * 256 + (if z < 1 then 0 else α (z - 1))) * 256 + (if z < 2 then 0 else α (z - 2))) * 256 + (if z < 3 then 0 else α (z - 3)) := rfl
    rw [e0, if_neg (by omega), if_neg (by omega), if_neg (by omega), s3]
    omega
  have c1 := h8 (z - 1); have c2 := h8 (z - 2); have c3 := h8 (z - 3)
  have ht : 1 ≤ α (z - 1) := by
    rcases b3 with h | h
    · omega
    · omega
  rw [er]
  generalize sV α (z - 3) 3 = m at *
  generalize sV α 0 (z - 3) = lo at *
  have hX : (256 : Nat) ^ (z - 3) = 2 ^ (8 * (z - 3)) := by rw [Nat.pow_mul]
  rw [hX] at s2 hlo
  by_cases hm : m < 8388608
  · rw [if_pos hm]
    obtain ⟨g1, g2⟩ := ar_g1 s2 hlo (by omega)
    have ev : tgt (z * 16777216 + m) = m * 2 ^ (8 * (z - 3)) := by
      unfold tgt
      rw [show (z * 16777216 + m) % 8388608 = m by omega, show (z * 16777216 + m) / 16777216 = z by omega, pw_ge (by omega), show 8 * z - 24 = 8 * (z - 3) by omega]
    rw [ev]
    exact ⟨by omega, g1, g2⟩
  · rw [if_neg hm]
    obtain ⟨g1, g2⟩ := ar_g2 s2 hlo (by omega)
    have ev : tgt ((z + 1) * 16777216 + m / 256) = m / 256 * (2 ^ (8 * (z - 3)) * 256) := by
      unfold tgt
      rw [show ((z + 1) * 16777216 + m / 256) % 8388608 = m / 256 by omega, show ((z + 1) * 16777216 + m / 256) / 16777216 = z + 1 by omega, pw_ge (by omega), show 8 * (z + 1) - 24 = 8 * (z - 3) + 8 by omega, Nat.pow_add]
    rw [ev]
    exact ⟨by omega, g1, g2⟩
/-- bits of a block at height h -/
def good (v h : Nat) : Prop := v < 4294967296 ∧ tgt v ≤ LT ∧ 2 ^ (254 - 4 * (h / 8)) ≤ tgt v
theorem LT_lt : LT < 2 ^ 255 := by decide +kernel
theorem LT_ge : 2 ^ 254 ≤ LT := by decide +kernel
theorem good_0 : good 545259519 0 := ⟨by decide, Nat.le_refl _, LT_ge⟩
theorem r_cl_ge (t : Int64) : 1200 ≤ r_cl t := by
  unfold r_cl
  by_cases h : 1200 ≤ t
  · rw [if_pos h]
    by_cases h2 : t ≤ 19200
    · rw [if_pos h2]
      obtain ⟨n, hn, e⟩ := wb_of t
      subst e
      rw [wb_tn hn]
      rw [Int64.le_iff_toInt_le] at h h2
      have e1 : (1200 : Int64).toInt = 1200 := by decide
      have e2 : (19200 : Int64).toInt = 19200 := by decide
      rw [e1] at h; rw [e2] at h2
      have c := BitVec.toInt_eq_toNat_cond (lN n).toBitVec
      rw [wb_tn hn] at c
      have c' : (lN n).toInt = if 2 * n < 2 ^ 64 then (n : Int) else (n : Int) - ((2 ^ 64 : Nat) : Int) := c
      by_cases hh : 2 * n < 2 ^ 64
      · rw [if_pos hh] at c'; omega
      · rw [if_neg hh] at c'; omega
    · rw [if_neg h2]; omega
  · rw [if_neg h]; omega
theorem good_same {v h : Nat} (hg : good v h) (h8 : ¬ (h + 1) % 8 = 0) : good v (h + 1) := by
  obtain ⟨a, b, c⟩ := hg
  refine ⟨a, b, ?_⟩
  rw [show (h + 1) / 8 = h / 8 by omega]; exact c
theorem good_ret {v h : Nat} {t : Int64} {α β : Nat → Nat} (ha : by8 α) (hb : by8 β) (hg : good v h) (hh : h < 300) (h8 : (h + 1) % 8 = 0) : good (r_must v t α β) (h + 1) := by
  obtain ⟨a, b, c⟩ := hg
  have hT : tgt v < 4294967296 ^ 8 := Nat.lt_of_le_of_lt b (Nat.lt_trans LT_lt (by decide))
  have A' := mustA_V (t := t) (α := α) a hT
  have B' : sV (r_open 545259519 β) 0 40 = LT := op_V (by omega) (by decide +kernel)
  have cm := cmp_le0 (d := 40) (r_mustA_by (v := v) (t := t) ha) (r_open_by (v := 545259519) hb)
  rw [A', B'] at cm
  have hq : tgt v / 4 ≤ tgt v * r_cl t / 4800 := by
    have h1 : tgt v * 1200 ≤ tgt v * r_cl t := Nat.mul_le_mul_left _ (r_cl_ge t)
    have h2 : tgt v * 1200 / 4800 ≤ tgt v * r_cl t / 4800 := Nat.div_le_div_right h1
    have h3 : tgt v * 1200 / 4800 = tgt v / 4 := by omega
    omega
  have hp : 2 ^ (254 - 4 * (h / 8)) = 4 * (4 * 2 ^ (254 - 4 * ((h + 1) / 8))) := by
    rw [show 254 - 4 * (h / 8) = 254 - 4 * ((h + 1) / 8) + 2 + 2 by omega, Nat.pow_add, Nat.pow_add]; omega
  have h100 : 2 ^ 100 ≤ 2 ^ (254 - 4 * ((h + 1) / 8)) := Nat.pow_le_pow_right (by omega) (by omega)
  unfold good r_must
  have hLg := LT_ge; have hLl := LT_lt
  have e254 : 2 ^ (254 - 4 * ((h + 1) / 8)) ≤ 2 ^ 250 := Nat.pow_le_pow_right (by omega) (by omega)
  have e250 : (2 : Nat) ^ 254 = 16 * 2 ^ 250 := by decide
  have e256 : (2 : Nat) ^ 256 = 2 * 2 ^ 255 := by decide
  generalize tgt v * r_cl t / 4800 = Q at *
  generalize 2 ^ (254 - 4 * ((h + 1) / 8)) = Z at *
  by_cases c2 : r_cmp (r_mustA v t α) (r_open 545259519 β) 40 0 (nI 0) ≤ 0
  · rw [if_pos c2]
    have c3 := cm.mp c2
    obtain ⟨q1, q2, q3⟩ := cpt_V (r_mustA_by (v := v) (t := t) ha) rfl A' (by omega) (by omega)
    exact ⟨q1, by omega, by omega⟩
  · rw [if_neg c2, compact_LT (r_open_by hb) B']
    exact ⟨by decide, Nat.le_refl _, by show Z ≤ LT; omega⟩
