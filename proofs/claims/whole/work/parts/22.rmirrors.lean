def r_incL (α : Nat → Nat) : Nat → Nat → Nat → (Nat → Nat) → (Nat → Nat)
  | 0, _, _, β => β
  | d + 1, i, cy, β => r_incL α d (i + 1) ((α i + cy) / 256) (updN β i ((α i + cy) % 256))
def r_dblL : Nat → Nat → Nat → (Nat → Nat) → (Nat → Nat)
  | 0, _, _, γ => γ
  | d + 1, i, cy, γ => r_dblL d (i + 1) ((2 * γ i + cy) / 256) (updN γ i ((2 * γ i + cy) % 256))
def r_subL (β : Nat → Nat) : Nat → Nat → Nat → (Nat → Nat) → (Nat → Nat)
  | 0, _, _, γ => γ
  | d + 1, i, bo, γ => if β i + bo ≤ γ i then r_subL β d (i + 1) 0 (updN γ i (γ i - β i - bo)) else r_subL β d (i + 1) 1 (updN γ i (γ i + 256 - β i - bo))
def r_qL (β : Nat → Nat) : Nat → (Nat → Nat) → (Nat → Nat) → (Nat → Nat) × (Nat → Nat)
  | 0, α, γ => (α, γ)
  | k + 1, α, γ => if r_cmp (r_dblL 40 0 (if k = 256 then 1 else 0) γ) β 40 0 (nI 0) < 0 then r_qL β k α (r_dblL 40 0 (if k = 256 then 1 else 0) γ)
      else r_qL β k (updN α (k / 8) (α (k / 8) + 2 ^ (k % 8))) (r_subL β 40 0 0 (r_dblL 40 0 (if k = 256 then 1 else 0) γ))
def r_inc (α β : Nat → Nat) : Nat → Nat := r_incL α 40 0 1 β
def r_quo (α β γ : Nat → Nat) : (Nat → Nat) × (Nat → Nat) := r_qL (r_inc α β) 257 (zN α 40) (zN γ 40)
theorem r_incL_by {α : Nat → Nat} : ∀ {d i cy : Nat} {β : Nat → Nat}, by8 β → by8 (r_incL α d i cy β) := by
  intro d
  induction d with
  | zero => intro i cy β h; exact h
  | succ d ih => intro i cy β h; exact ih (by8_u h (Nat.mod_lt _ (by omega)))
theorem r_dblL_by : ∀ {d i cy : Nat} {γ : Nat → Nat}, by8 γ → by8 (r_dblL d i cy γ) := by
  intro d
  induction d with
  | zero => intro i cy β h; exact h
  | succ d ih => intro i cy β h; exact ih (by8_u h (Nat.mod_lt _ (by omega)))
theorem r_subL_by {β : Nat → Nat} : ∀ {d i bo : Nat} {γ : Nat → Nat}, by8 γ → by8 (r_subL β d i bo γ) := by
  intro d
  induction d with
  | zero => intro i cy γ h; exact h
  | succ d ih =>
    intro i bo γ h
    have hi := h i
    rw [r_subL]
    by_cases c : β i + bo ≤ γ i
    · rw [if_pos c]; exact ih (by8_u h (by omega))
    · rw [if_neg c]; exact ih (by8_u h (by omega))
theorem r_qL_by {β : Nat → Nat} : ∀ {k : Nat} {α γ : Nat → Nat}, by8 γ → by8 (r_qL β k α γ).2 := by
  intro k
  induction k with
  | zero => intro α γ h; exact h
  | succ k ih =>
    intro α γ h
    rw [r_qL]
    by_cases c : r_cmp (r_dblL 40 0 (if k = 256 then 1 else 0) γ) β 40 0 (nI 0) < 0
    · rw [if_pos c]; exact ih (r_dblL_by h)
    · rw [if_neg c]; exact ih (r_subL_by (r_dblL_by h))
theorem r_qL_bd {β : Nat → Nat} : ∀ {k : Nat} {α γ : Nat → Nat} (i : Nat), (r_qL β k α γ).1 i ≤ α i + 128 * k := by
  intro k
  induction k with
  | zero => intro α γ i; exact Nat.le_refl _
  | succ k ih =>
    intro α γ i
    rw [r_qL]
    by_cases c : r_cmp (r_dblL 40 0 (if k = 256 then 1 else 0) γ) β 40 0 (nI 0) < 0
    · rw [if_pos c]; have := ih (α := α) (γ := r_dblL 40 0 (if k = 256 then 1 else 0) γ) i; omega
    · rw [if_neg c]
      have h1 := ih (α := updN α (k / 8) (α (k / 8) + 2 ^ (k % 8))) (γ := r_subL β 40 0 0 (r_dblL 40 0 (if k = 256 then 1 else 0) γ)) i
      have h2 : updN α (k / 8) (α (k / 8) + 2 ^ (k % 8)) i ≤ α i + 128 := by
        have h3 : 2 ^ (k % 8) ≤ 2 ^ 7 := Nat.pow_le_pow_right (by omega) (by omega)
        unfold updN; by_cases e : i = k / 8
        · rw [if_pos e, e]; omega
        · rw [if_neg e]; omega
      omega
theorem sh_1 {k : Nat} (h : k < 31) : nI 1 <<< (nI k &&& 31) = nI (2 ^ k) := by
  have : ∀ k, k < 31 → nI 1 <<< (nI k &&& 31) = nI (2 ^ k) := by decide +kernel
  exact this k h
theorem sb3_ge {x y z : Nat} (c : 0 ≤ nI x - nI y - nI z) (hx : x < 2 ^ 20) (hy : y < 2 ^ 20) (hz : z < 2 ^ 20) : y + z ≤ x := by
  rcases Nat.lt_or_ge x (y + z) with h | h
  · exfalso
    have e : nI x - nI y - nI z = nI x - nI (y + z) := by rw [← nI_add, Int32.sub_eq_add_neg, Int32.sub_eq_add_neg, Int32.sub_eq_add_neg, Int32.neg_add, Int32.add_assoc, Int32.sub_eq_add_neg]
    rw [e] at c
    have := pk_sneg (a := x) (b := y + z) (by omega) h
    rw [Int32.lt_iff_toInt_lt] at this
    rw [Int32.le_iff_toInt_le] at c
    omega
  · exact h
theorem sb3_lt {x y z : Nat} (c : ¬ 0 ≤ nI x - nI y - nI z) (hx : x < 2 ^ 20) (hy : y < 2 ^ 20) (hz : z < 2 ^ 20) : x < y + z := by
  rcases Nat.lt_or_ge x (y + z) with h | h
  · exact h
  · exfalso
    apply c
    rw [pk_sub (by omega), pk_sub (by omega)]
    exact nI_pos' (by omega)
theorem sb3_v {x y z : Nat} (h : y + z ≤ x) : nI x - nI y - nI z = nI (x - y - z) := by rw [pk_sub (by omega), pk_sub (by omega)]
theorem sb3_w {x y z : Nat} (hy : y + z ≤ x + 256) : nI x - nI y - nI z + nI 256 = nI (x + 256 - y - z) := by
  have e : nI x - nI y - nI z + nI 256 = nI (x + 256) - nI y - nI z := by
    rw [← nI_add, Int32.sub_eq_add_neg, Int32.sub_eq_add_neg, Int32.sub_eq_add_neg, Int32.sub_eq_add_neg, Int32.add_assoc, Int32.add_comm (-nI z), ← Int32.add_assoc, Int32.add_assoc (nI x), Int32.add_comm (-nI y), ← Int32.add_assoc]
  rw [e, sb3_v hy]
def r_mulL (t : Nat) : Nat → Nat → Nat → (Nat → Nat) → (Nat → Nat)
  | 0, _, _, α => α
  | d + 1, i, cy, α => r_mulL t d (i + 1) ((α i * t + cy) / 256) (updN α i ((α i * t + cy) % 256))
def r_divL (q : Nat) : Nat → Nat → (Nat → Nat) → (Nat → Nat)
  | 0, _, α => α
  | k + 1, r, α => r_divL q k ((r * 256 + α k) % q) (updN α k ((r * 256 + α k) / q))
def r_scale (t q : Nat) (α : Nat → Nat) : Nat → Nat := r_divL q 40 0 (r_mulL t 40 0 0 α)
theorem r_mulL_by {t : Nat} : ∀ {d i cy : Nat} {α : Nat → Nat}, by8 α → by8 (r_mulL t d i cy α) := by
  intro d
  induction d with
  | zero => intro i cy β h; exact h
  | succ d ih => intro i cy β h; exact ih (by8_u h (Nat.mod_lt _ (by omega)))
theorem r_divL_by {q : Nat} (hq : 0 < q) : ∀ {k r : Nat} {α : Nat → Nat}, by8 α → r < q → by8 (r_divL q k r α) := by
  intro k
  induction k with
  | zero => intro r α h _; exact h
  | succ k ih =>
    intro r α h hr
    refine ih (by8_u h ?_) (Nat.mod_lt _ hq)
    have hk := h k
    rw [Nat.div_lt_iff_lt_mul hq]
    have : r * 256 + 256 ≤ 256 * q := by omega
    omega
theorem r_mul_c {x t cy : Nat} (hx : x < 256) (ht : t ≤ 19200) (hc : cy ≤ 19200) : x * t + cy ≤ 4915200 ∧ (x * t + cy) / 256 ≤ 19200 := by
  have : x * t ≤ 255 * 19200 := Nat.mul_le_mul (by omega) ht
  omega
