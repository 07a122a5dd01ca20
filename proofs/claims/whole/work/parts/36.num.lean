/-! COMPACT BITS: class and reference -/
theorem bytes_V {α : Nat → Nat} : ∀ {d i z : Nat}, z ≤ i → (∀ j, z ≤ j → j < i → α j = 0) → (z = 0 ∨ α (z - 1) ≠ 0) → r_bytes α d i z ≤ i + d ∧ (∀ j, r_bytes α d i z ≤ j → j < i + d → α j = 0) ∧ (r_bytes α d i z = 0 ∨ α (r_bytes α d i z - 1) ≠ 0) := by
  intro d
  induction d with
  | zero => intro i z h1 h2 h3; exact ⟨h1, fun j a b => h2 j a (by omega), h3⟩
  | succ d ih =>
    intro i z h1 h2 h3
    rw [r_bytes]
    by_cases c : 0 < α i
    · rw [if_pos c]
      obtain ⟨a1, a2, a3⟩ := ih (i := i + 1) (z := i + 1) (Nat.le_refl _) (fun j a b => by omega) (Or.inr (by rw [Nat.add_sub_cancel]; omega))
      exact ⟨by omega, fun j a b => a2 j a (by omega), a3⟩
    · rw [if_neg c]
      obtain ⟨a1, a2, a3⟩ := ih (i := i + 1) (z := z) (by omega) (fun j a b => by rcases Nat.lt_or_ge j i with g | g; exact h2 j a g; rw [show j = i by omega]; omega) h3
      exact ⟨by omega, fun j a b => a2 j a (by omega), a3⟩
theorem size_V {a b c d : Int64} {α : Nat → Nat} (hB : ∀ k, k < 32 → m_byte a b c d (nI k) = lN (α k)) (h8 : by8 α) : ∀ {K : Nat}, K ≤ 32 → m_size a b c d K ≤ K ∧ (∀ j, m_size a b c d K ≤ j → j < K → α j = 0) ∧ (m_size a b c d K = 0 ∨ α (m_size a b c d K - 1) ≠ 0) := by
  intro K
  induction K with
  | zero => intro _; exact ⟨Nat.le_refl _, fun j _ h => by omega, Or.inl rfl⟩
  | succ K ih =>
    intro hK
    have hk := h8 K
    rw [m_size, hB K (by omega)]
    rcases Nat.eq_zero_or_pos (α K) with g | g
    · obtain ⟨a1, a2, a3⟩ := ih (by omega)
      rw [g, if_pos (by rfl)]
      exact ⟨by omega, fun j h1 h2 => by rcases Nat.lt_or_ge j K with q | q; exact a2 j h1 q; rw [show j = K by omega]; exact g, a3⟩
    · rw [if_neg (l_ne0 g (by omega))]
      exact ⟨Nat.le_refl _, fun j h1 h2 => by omega, Or.inr (by rw [Nat.add_sub_cancel]; omega)⟩
theorem size_eq {a b c d : Int64} {α : Nat → Nat} (hB : ∀ k, k < 32 → m_byte a b c d (nI k) = lN (α k)) (h8 : by8 α) (h0 : ∀ k, 32 ≤ k → k < 40 → α k = 0) {n : Nat} (hn : n = 40) : m_size a b c d 32 = r_bytes α n 0 0 ∧ r_bytes α n 0 0 ≤ 32 := by
  obtain ⟨a1, a2, a3⟩ := size_V hB h8 (Nat.le_refl 32)
  obtain ⟨b1, b2, b3⟩ := bytes_V (α := α) (d := n) (i := 0) (z := 0) (Nat.le_refl _) (fun j h1 h2 => by omega) (Or.inl rfl)
  rw [Nat.zero_add] at b1 b2
  generalize m_size a b c d 32 = x at *
  generalize r_bytes α n 0 0 = y at *
  have hy : y ≤ 32 := by
    rcases b3 with h | h
    · omega
    · rcases Nat.lt_or_ge 32 y with g | g
      · exact absurd (h0 (y - 1) (by omega) (by omega)) h
      · exact g
  refine ⟨?_, hy⟩
  rcases Nat.lt_trichotomy x y with g | g | g
  · rcases b3 with h | h
    · omega
    · exact absurd (a2 (y - 1) (by omega) (by omega)) h
  · exact g
  · rcases a3 with h | h
    · omega
    · exact absurd (b2 (x - 1) (by omega) (by omega)) h
theorem sh8or {m b : Nat} (hm : m < 2 ^ 50) (hb : b < 256) : j_shl (lN m) (nI 8) ||| lN b = lN (m * 256 + b) := by
  unfold j_shl
  rw [wb_shl m (k := 8) (by omega)]
  exact g_or (k := 8) (p := 256) rfl hb (by omega)
theorem byte_at {a b c d : Int64} {α : Nat → Nat} (hB : ∀ k, k < 32 → m_byte a b c d (nI k) = lN (α k)) {z k : Nat} (hz : z ≤ 32) (hk : 1 ≤ k) (hk3 : k ≤ 3) : m_byte a b c d (nI z - nI k) = lN (if z < k then 0 else α (z - k)) := by
  by_cases h : z < k
  · rw [if_pos h]
    have hn := pk_sneg (a := z) (b := k) (by omega) h
    unfold m_byte
    rw [if_neg (fun q => by rw [Int32.lt_iff_toInt_lt] at hn; rw [Int32.le_iff_toInt_le] at q; omega)]
    rfl
  · rw [if_neg h, pk_sub (by omega), hB (z - k) (by omega)]
theorem and23 {N : Nat} (hN : N < 16777216) : (lN N &&& 8388608 = 0) ↔ N < 8388608 := by
  have e : lN N &&& 8388608 = lN (N &&& 8388608) := by
    show lN N &&& lN 8388608 = _
    exact wb_and (by omega) (by omega)
  have h23 : (8388608 : Nat) = 2 ^ 23 := rfl
  rw [e]
  have hle : N &&& 8388608 ≤ 8388608 := Nat.and_le_right
  constructor
  · intro h
    have h1 : lN (N &&& 8388608) = lN 0 := h
    have h2 := (pk_lEQ (by omega) (by omega)).mp h1
    rcases Nat.lt_or_ge N 8388608 with g | g
    · exact g
    · exfalso
      have t1 : (N &&& 8388608).testBit 23 = false := by rw [h2]; simp
      rw [Nat.testBit_and, h23, Nat.testBit_two_pow_self, Bool.and_true, Nat.testBit_eq_decide_div_mod_eq] at t1
      have : N / 2 ^ 23 % 2 = 1 := by omega
      rw [this] at t1
      simp at t1
  · intro h
    have h2 : N &&& 8388608 = 0 := by
      apply Nat.eq_of_testBit_eq
      intro i
      rw [Nat.testBit_and, h23, Nat.testBit_two_pow, Nat.zero_testBit]
      by_cases hi : 23 = i
      · subst hi
        rw [Nat.testBit_lt_two_pow (by omega)]; rfl
      · simp [hi]
    rw [h2]; rfl
theorem short_V {a b c d : Int64} {α : Nat → Nat} (hB : ∀ k, k < 32 → m_byte a b c d (nI k) = lN (α k)) (h8 : by8 α) (h0 : ∀ k, 32 ≤ k → k < 40 → α k = 0) : m_short a b c d = lN (r_compact α) := by
  obtain ⟨e1, hz⟩ := size_eq hB h8 h0 rfl
  have b8 : ∀ k, (if r_bytes α 40 0 0 < k then 0 else α (r_bytes α 40 0 0 - k)) < 256 := by
    intro k
    by_cases h : r_bytes α 40 0 0 < k
    · rw [if_pos h]; decide
    · rw [if_neg h]; exact h8 _
  have c1 := b8 1; have c2 := b8 2; have c3 := b8 3
  have e2 : m_num a b c d (r_bytes α 40 0 0) = lN (r_cm α (r_bytes α 40 0 0) 3 1 0) ∧ r_cm α (r_bytes α 40 0 0) 3 1 0 < 16777216 := by
    have er : r_cm α (r_bytes α 40 0 0) 3 1 0 = ((0 * 256 + (if r_bytes α 40 0 0 < 1 then 0 else α (r_bytes α 40 0 0 - 1))) * 256 + (if r_bytes α 40 0 0 < 2 then 0 else α (r_bytes α 40 0 0 - 2))) * 256 + (if r_bytes α 40 0 0 < 3 then 0 else α (r_bytes α 40 0 0 - 3)) := rfl
    unfold m_num
    rw [byte_at hB hz (by omega) (by omega), byte_at hB hz (by omega) (by omega), byte_at hB hz (by omega) (by omega), er]
    generalize (if r_bytes α 40 0 0 < 1 then 0 else α (r_bytes α 40 0 0 - 1)) = x1 at *
    generalize (if r_bytes α 40 0 0 < 2 then 0 else α (r_bytes α 40 0 0 - 2)) = x2 at *
    generalize (if r_bytes α 40 0 0 < 3 then 0 else α (r_bytes α 40 0 0 - 3)) = x3 at *
    have s1 : j_shl 0 (nI 8) ||| lN x1 = lN (0 * 256 + x1) := sh8or (m := 0) (by omega) c1
    rw [s1, sh8or (by omega) c2, sh8or (by omega) c3]
    exact ⟨rfl, by omega⟩
  obtain ⟨e3, e4⟩ := e2
  unfold m_short r_compact
  rw [e1, e3]
  generalize r_bytes α 40 0 0 = z at *
  generalize r_cm α z 3 1 0 = N at *
  by_cases h : N < 8388608
  · rw [if_pos ((and23 e4).mpr h), if_pos h, nI_l (by omega)]
    unfold j_shl
    rw [wb_shl z (k := 24) (by omega)]
    exact g_or (k := 24) (p := 16777216) rfl (by omega) (by omega)
  · rw [if_neg (fun q => h ((and23 e4).mp q)), if_neg h, nI_l (by omega)]
    unfold j_shl j_ushr
    have e5 : ((lN N).toUInt64 >>> ((nI 8).toInt64.toUInt64 &&& Int64.toUInt64 63)).toInt64 = lN (N / 2 ^ 8) := wb_shr (by omega) (by omega)
    rw [wb_shl (z + 1) (k := 24) (by omega), e5]
    exact g_or (k := 24) (p := 16777216) rfl (by omega) (by omega)
/-- a byte of four words -/
theorem byte_w {w x y z : Int64} {k : Nat} (hk : k < 32) : m_byte w x y z (nI k) = lN (r_by (r_word w x y z k) k) := by
  have e0 : (0 : Int32) ≤ nI k := nI_pos' (by omega)
  have e1 : nI k - nI k / nI 8 * nI 8 = nI (k % 8) := pk_rem (by omega) (by omega) (by omega)
  have ew : (if nI 8 ≤ nI k then (if nI 16 ≤ nI k then (if nI 24 ≤ nI k then w else x) else y) else z) = r_word w x y z k := by
    unfold r_word
    by_cases h1 : k < 8
    · rw [if_neg (nI_ge h1 (by omega)), if_pos h1]
    · rw [if_pos (nI_le (by omega) (by omega)), if_neg h1]
      by_cases h2 : k < 16
      · rw [if_neg (nI_ge h2 (by omega)), if_pos h2]
      · rw [if_pos (nI_le (by omega) (by omega)), if_neg h2]
        by_cases h3 : k < 24
        · rw [if_neg (nI_ge h3 (by omega)), if_pos h3]
        · rw [if_pos (nI_le (by omega) (by omega)), if_neg h3]
  unfold m_byte r_by
  rw [if_pos e0, e1, ew, pk_mul]
  obtain ⟨n, hn, e⟩ := wb_of (r_word w x y z k)
  rw [e]
  have eu : uN (lN n) = n := wb_tn hn
  rw [eu]
  unfold j_ushr
  rw [wb_shr hn (by omega)]
  have hd : n / 2 ^ (8 * (k % 8)) ≤ n := Nat.div_le_self _ _
  show lN _ &&& lN 255 = _
  exact g_mask (p := 256) (s := 8) rfl (by omega) (by omega)
theorem cpL_get {w x y z : Int64} : ∀ {d k : Nat} {f : Nat → Nat} {j : Nat}, r_cpL w x y z d k f j = if k ≤ j ∧ j < k + d then r_by (r_word w x y z j) j else f j := by
  intro d
  induction d with
  | zero => intro k f j; rw [if_neg (by omega)]; rfl
  | succ d ih =>
    intro k f j
    rw [r_cpL, ih]
    by_cases h : k + 1 ≤ j ∧ j < k + 1 + d
    · rw [if_pos h, if_pos (by omega)]
    · rw [if_neg h]
      by_cases h2 : j = k
      · subst h2; rw [updN_same, if_pos (by omega)]
      · rw [updN_ne h2, if_neg (by omega)]
/-- PROMISE 16, class and reference -/
theorem compact_eq {w x y z : Int64} {α : Nat → Nat} (h8 : by8 α) : m_short w x y z = lN (r_compact (r_cpL w x y z 32 0 (zN α 40))) := by
  apply short_V
  · intro k hk
    rw [byte_w hk, cpL_get, if_pos (by omega)]
  · exact r_cpL_by (by8_z h8)
  · intro k h1 h2
    rw [cpL_get, if_neg (by omega)]
    unfold zN; rw [if_pos h2]
