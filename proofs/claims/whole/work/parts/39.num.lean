/-! FAULT and TARGET: class and reference -/
theorem bit23 {v : Nat} (hv : v < 4294967296) : (lN v &&& 8388608 = 0) ↔ v / 8388608 % 2 = 0 := by
  have e : lN v &&& 8388608 = lN (v &&& 8388608) := by
    show lN v &&& lN 8388608 = _
    exact wb_and (by omega) (by omega)
  have h23 : (8388608 : Nat) = 2 ^ 23 := rfl
  have hle : v &&& 8388608 ≤ 8388608 := Nat.and_le_right
  have tb : (v &&& 8388608).testBit 23 = decide (v / 8388608 % 2 = 1) := by
    rw [Nat.testBit_and, h23, Nat.testBit_two_pow_self, Bool.and_true, Nat.testBit_eq_decide_div_mod_eq]
  rw [e]
  constructor
  · intro h
    have h1 : lN (v &&& 8388608) = lN 0 := h
    have h2 := (pk_lEQ (by omega) (by omega)).mp h1
    rw [h2, Nat.zero_testBit] at tb
    have := of_decide_eq_false tb.symm
    omega
  · intro h
    have h2 : v &&& 8388608 = 0 := by
      apply Nat.eq_of_testBit_eq
      intro i
      rw [Nat.zero_testBit]
      by_cases hi : 23 = i
      · subst hi; rw [tb]; simp; omega
      · rw [Nat.testBit_and, h23, Nat.testBit_two_pow]; simp [hi]
    rw [h2]; rfl
theorem sh_E : ∀ s, s < 256 → nI 8 * (nI s - nI 3) = if 3 ≤ s then nI (8 * s - 24) else -(nI (24 - 8 * s)) := by decide +kernel
theorem sh_N : ∀ c, c < 25 → 0 < c → (¬ 0 ≤ -(nI c)) ∧ -(-(nI c)) = nI c ∧ ∀ b, b < 24 → c < b → -(nI c) + nI b = nI (b - c) := by decide +kernel
theorem own_b {m b : Nat} (h1 : 2 ^ (b - 1) ≤ m) (h2 : m < 2 ^ b) (hb : 1 ≤ b) (hm : m < 8388608) : b ≤ 23 ∧ r_own m ≤ 3 ∧ 8 * r_own m < b + 8 ∧ b ≤ 8 * r_own m := by
  have h23 : b - 1 < 23 := (Nat.pow_lt_pow_iff_right (by omega : 1 < 2)).mp (Nat.lt_of_le_of_lt h1 hm)
  have hp : 0 < m := Nat.lt_of_lt_of_le (Nat.pow_pos (by omega)) h1
  unfold r_own
  rw [if_neg (by omega)]
  by_cases c1 : m < 256
  · have : b - 1 < 8 := (Nat.pow_lt_pow_iff_right (by omega : 1 < 2)).mp (Nat.lt_of_le_of_lt h1 c1)
    rw [if_pos c1]; omega
  · have g1 : 8 < b := (Nat.pow_lt_pow_iff_right (by omega : 1 < 2)).mp (Nat.lt_of_le_of_lt (show 2 ^ 8 ≤ m by omega) h2)
    rw [if_neg c1]
    by_cases c2 : m < 65536
    · have : b - 1 < 16 := (Nat.pow_lt_pow_iff_right (by omega : 1 < 2)).mp (Nat.lt_of_le_of_lt h1 c2)
      rw [if_pos c2]; omega
    · have g2 : 16 < b := (Nat.pow_lt_pow_iff_right (by omega : 1 < 2)).mp (Nat.lt_of_le_of_lt (show 2 ^ 16 ≤ m by omega) h2)
      rw [if_neg c2]; omega
theorem own_lt {m : Nat} (hm : m < 8388608) : m < 2 ^ (8 * r_own m) ∨ m = 0 := by
  unfold r_own
  by_cases c0 : m = 0
  · exact Or.inr c0
  · left
    rw [if_neg c0]
    by_cases c1 : m < 256
    · rw [if_pos c1]; omega
    · rw [if_neg c1]
      by_cases c2 : m < 65536
      · rw [if_pos c2]; omega
      · rw [if_neg c2]; omega
theorem tgt_b {v : Nat} (h : r_own (v % 8388608) + v / 16777216 ≤ 35) : tgt v < 2 ^ 256 := by
  have hm : v % 8388608 < 8388608 := Nat.mod_lt _ (by omega)
  unfold tgt
  rcases own_lt hm with g | g
  · rw [Nat.div_lt_iff_lt_mul (Nat.pow_pos (by omega)), ← Nat.pow_add]
    have h1 : v % 8388608 * 2 ^ (8 * (v / 16777216)) < 2 ^ (8 * r_own (v % 8388608)) * 2 ^ (8 * (v / 16777216)) := (Nat.mul_lt_mul_right (Nat.pow_pos (by omega))).mpr g
    rw [← Nat.pow_add] at h1
    exact Nat.lt_of_lt_of_le h1 (Nat.pow_le_pow_right (by omega) (by omega))
  · rw [g, Nat.zero_mul, Nat.zero_div]; exact Nat.pow_pos (by omega)
theorem top_eq {v : Nat} (h : tgt v / 2 ^ 192 = 9223370937343148032) : tgt v = LT := by
  have hm : v % 8388608 < 2 ^ 23 := Nat.mod_lt _ (by omega)
  rw [LT_e]
  rw [tgt_div] at h
  unfold tgt at *
  generalize v % 8388608 = m at *
  generalize v / 16777216 = s at *
  rcases Nat.lt_or_ge (8 * s) 216 with g | g
  · exfalso
    rw [pw_lt (by omega)] at h
    have := Nat.div_le_self m (2 ^ (24 + 192 - 8 * s))
    omega
  · rw [pw_ge (by omega)] at h
    rw [pw_ge (by omega), show 8 * s - 24 = (8 * s - (24 + 192)) + 192 by omega, Nat.pow_add, ← Nat.mul_assoc, h]
theorem top_V {v : Nat} (hv : v < 4294967296) (hT : tgt v < 2 ^ 256) : (m_tp (lN v) (nI 0) < 0 ∨ ¬ m_tp (lN v) (nI 0) ≤ 9223370937343148032) ↔ LT < tgt v := by
  have p192 : (2 : Nat) ^ 256 = 2 ^ 192 * 18446744073709551616 := by decide
  have e : m_tp (lN v) (nI 0) = lN (tgt v / 2 ^ 192) := by
    rw [m_tp_V hv (by omega)]
    have hx : tgt v / 2 ^ 192 < 2 ^ 64 := (Nat.div_lt_iff_lt_mul (Nat.pow_pos (by omega))).mpr (by rw [Nat.mul_comm]; rw [p192] at hT; exact hT)
    show lN (tgt v / 2 ^ 192 % 2 ^ 64) = _
    rw [Nat.mod_eq_of_lt hx]
  have hx : tgt v / 2 ^ 192 < 18446744073709551616 := (Nat.div_lt_iff_lt_mul (Nat.pow_pos (by omega))).mpr (by rw [Nat.mul_comm]; rw [p192] at hT; exact hT)
  have k1 : LT < tgt v ↔ 9223370937343148032 < tgt v / 2 ^ 192 := by
    constructor
    · intro h
      rcases Nat.lt_trichotomy (tgt v / 2 ^ 192) 9223370937343148032 with g | g | g
      · exfalso
        have := (Nat.div_lt_iff_lt_mul (Nat.pow_pos (by omega))).mp g
        rw [← LT_e] at this
        omega
      · have := top_eq g; omega
      · exact g
    · intro h
      have := (Nat.le_div_iff_mul_le (Nat.pow_pos (by omega))).mp (show 9223370937343148032 + 1 ≤ tgt v / 2 ^ 192 from h)
      rw [Nat.add_mul, ← LT_e] at this
      have h2 : 0 < 1 * 2 ^ 192 := by decide
      omega
  rw [e, k1]
  generalize tgt v / 2 ^ 192 = x at *
  constructor
  · intro h
    rcases Nat.lt_or_ge 9223370937343148032 x with g | g
    · exact g
    · exfalso
      rcases h with h | h
      · have h' : lN x < lN 0 := h
        have := (pk_lLT (by omega) (by omega)).mp h'
        omega
      · exact h (show lN x ≤ lN 9223370937343148032 from (pk_lLE (by omega) (by omega)).mpr g)
  · intro h
    by_cases n1 : lN x < 0
    · exact Or.inl n1
    · right
      have hx2 : x < 2 ^ 63 := by
        obtain ⟨k, hk, e⟩ := pk_lOf n1
        have h1 := wb_tn (n := x) (by omega)
        rw [e, wb_tn (by omega)] at h1
        omega
      intro q
      have q' : lN x ≤ lN 9223370937343148032 := q
      have := (pk_lLE hx2 (by omega)).mp q'
      omega
/-- PROMISE 14, class and reference -/
theorem fault_eq {v : Nat} {α β : Nat → Nat} (hv : v < 4294967296) (ha : by8 α) (hb : by8 β) : m_fault (lN v) = r_fault v α β := by
  have n0 : ¬ lN v < 0 := fun q => by
    have q' : lN v < lN 0 := q
    have := (pk_lLT (by omega) (by omega)).mp q'
    omega
  have n1 : lN v ≤ 4294967295 := show lN v ≤ lN 4294967295 from (pk_lLE (by omega) (by omega)).mpr (by omega)
  have hm : v % 8388608 < 8388608 := Nat.mod_lt _ (by omega)
  have hs : v / 16777216 < 256 := by omega
  have em : (lN v &&& 8388607 = 0) ↔ v % 8388608 = 0 := by
    rw [l_and23 hv]
    constructor
    · intro q
      have q' : lN (v % 8388608) = lN 0 := q
      exact (pk_lEQ (by omega) (by omega)).mp q'
    · intro q; rw [q]; rfl
  have hbit := bit23 hv
  unfold m_fault r_fault
  rw [if_neg n0, if_pos n1]
  by_cases c1 : v / 8388608 % 2 = 1 ∧ 0 < v % 8388608
  · rw [if_pos c1, if_neg (by rw [hbit, em]; omega)]
  · rw [if_neg c1, if_pos (by rw [hbit, em]; omega)]
    rw [m_shift_V hv, sh_E _ hs, l_and23 hv]
    have hown := r_own_le (v % 8388608)
    by_cases c0 : v % 8388608 = 0
    · rw [c0]
      rw [if_pos (Or.inl (show lN 0 = 0 from rfl))]
      have : r_own 0 = 0 := rfl
      rw [this]
      by_cases c2 : 0 + v / 16777216 ≤ 3
      · rw [if_pos c2]
      · rw [if_neg c2, if_pos rfl]
    · have hm0 : 0 < v % 8388608 := by omega
      obtain ⟨b, b1, b2, b3, b4, b5⟩ := len_V hm0 (by omega)
      obtain ⟨o1, o2, o3, o4⟩ := own_b b4 b5 b2 hm
      have onz : ¬ r_own (v % 8388608) = 0 := by omega
      have lnz : ¬ lN (v % 8388608) = 0 := l_ne0 hm0 (by omega)
      rw [b1]
      have fin : r_own (v % 8388608) + v / 16777216 ≤ 35 → (if m_tp (lN v) (nI 0) < 0 then nI 4 else if m_tp (lN v) (nI 0) ≤ 9223370937343148032 then nI 0 else nI 4) = (if r_cmp (r_open v α) (r_open 545259519 β) 40 0 (nI 0) ≤ 0 then nI 0 else nI 4) := by
        intro h35
        have hT := tgt_b h35
        have tp := top_V hv hT
        have hT40 : tgt v < 256 ^ 40 := Nat.lt_trans hT (by decide)
        have A' : sV (r_open v α) 0 40 = tgt v := op_V hv hT40
        have B' : sV (r_open 545259519 β) 0 40 = LT := op_V (by omega) (by decide +kernel)
        have cm := cmp_le0 (d := 40) (r_open_by (v := v) ha) (r_open_by (v := 545259519) hb)
        rw [A', B'] at cm
        generalize tgt v = N at *
        generalize m_tp (lN v) (nI 0) = T at *
        by_cases g : N ≤ LT
        · rw [if_pos (cm.mpr g), if_neg (fun q => by have := tp.mp (Or.inl q); omega), if_pos (by rcases Classical.em (T ≤ 9223370937343148032) with q | q; exact q; exact absurd (tp.mp (Or.inr q)) (by omega))]
        · rw [if_neg (fun q => g (cm.mp q))]
          rcases tp.mpr (by omega) with q | q
          · rw [if_pos q]
          · rw [if_neg q]
            by_cases q2 : T < 0
            · rw [if_pos q2]
            · rw [if_neg q2]
      by_cases c3 : 3 ≤ v / 16777216
      · rw [if_pos c3]
        have p0 : (0 : Int32) ≤ nI (8 * (v / 16777216) - 24) := nI_pos' (by omega)
        rw [if_neg (by rintro (h | h); exact lnz h; exact h.1 p0), if_neg (show ¬ (r_own (v % 8388608) + v / 16777216 ≤ 3) by omega), if_neg onz, nI_add]
        by_cases c4 : r_own (v % 8388608) + v / 16777216 - 3 ≤ 32
        · rw [if_pos (show nI (8 * (v / 16777216) - 24 + b) ≤ nI 256 from nI_le (by omega) (by omega)), if_pos c4]
          exact fin (by omega)
        · rw [if_neg (show ¬ nI (8 * (v / 16777216) - 24 + b) ≤ nI 256 from nI_ge (by omega) (by omega)), if_neg c4]
      · rw [if_neg c3]
        obtain ⟨s1, s2, s3⟩ := sh_N (24 - 8 * (v / 16777216)) (by omega) (by omega)
        have eu : j_ushr (lN (v % 8388608)) (nI (24 - 8 * (v / 16777216))) = lN (v % 8388608 / 2 ^ (24 - 8 * (v / 16777216))) := by
          unfold j_ushr; exact wb_shr (by omega) (by omega)
        rw [s2, eu]
        have hdz : v % 8388608 / 2 ^ (24 - 8 * (v / 16777216)) = 0 ↔ b ≤ 24 - 8 * (v / 16777216) := by
          rw [Nat.div_eq_zero_iff_lt (Nat.pow_pos (by omega))]
          constructor
          · intro h
            have := (Nat.pow_lt_pow_iff_right (by omega : 1 < 2)).mp (Nat.lt_of_le_of_lt b4 h)
            omega
          · intro h; exact Nat.lt_of_lt_of_le b5 (Nat.pow_le_pow_right (by omega) h)
        have hdl : v % 8388608 / 2 ^ (24 - 8 * (v / 16777216)) ≤ v % 8388608 := Nat.div_le_self _ _
        have hd0 : lN (v % 8388608 / 2 ^ (24 - 8 * (v / 16777216))) = 0 ↔ v % 8388608 / 2 ^ (24 - 8 * (v / 16777216)) = 0 := by
          constructor
          · intro q
            have q' : lN (v % 8388608 / 2 ^ (24 - 8 * (v / 16777216))) = lN 0 := q
            exact (pk_lEQ (by omega) (by omega)).mp q'
          · intro q; rw [q]; rfl
        by_cases c4 : b ≤ 24 - 8 * (v / 16777216)
        · rw [if_pos (Or.inr ⟨s1, hd0.mpr (hdz.mpr c4)⟩), if_pos (show r_own (v % 8388608) + v / 16777216 ≤ 3 by omega)]
        · rw [if_neg (by rintro (h | h); exact lnz h; exact c4 (hdz.mp (hd0.mp h.2))), if_neg (show ¬ (r_own (v % 8388608) + v / 16777216 ≤ 3) by omega), if_neg onz, s3 b (by omega) (by omega), if_pos (show nI (b - (24 - 8 * (v / 16777216))) ≤ nI 256 from nI_le (by omega) (by omega)), if_pos (show r_own (v % 8388608) + v / 16777216 - 3 ≤ 32 by omega)]
          exact fin (by omega)
theorem lo_V {α : Nat → Nat} {b : Nat} : ∀ {K v : Nat}, r_lo α b K v = v * 256 ^ K + sV α b K := by
  intro K
  induction K with
  | zero => intro v; rw [r_lo, Nat.pow_zero, sV]; omega
  | succ K ih =>
    intro v
    have e : v * (256 ^ K * 256) = v * 256 * 256 ^ K := by rw [Nat.mul_comm (256 ^ K), ← Nat.mul_assoc]
    rw [r_lo, ih, sV_top, Nat.pow_succ, Nat.add_mul, e]
    omega
/-- PROMISE 15, class and reference -/
theorem target_eq {v k : Nat} {α : Nat → Nat} (hv : v < 4294967296) (hk : k < 4) : m_tp (lN v) (nI k) = lN (r_lo (r_open v α) (0 + 8 * (3 - k)) 8 0) := by
  rw [m_tp_V hv hk, lo_V, Nat.zero_mul, Nat.zero_add, Nat.zero_add, sV_dig (N := tgt v) (fun j _ h => op_d hv j (by omega)), show (256 : Nat) ^ (8 * (3 - k)) = 2 ^ (64 * (3 - k)) by rw [show (256 : Nat) = 2 ^ 8 from rfl, ← Nat.pow_mul]; congr 1; omega]
