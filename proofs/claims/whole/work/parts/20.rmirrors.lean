/-! MIRRORS of the reference: its byte rows as Nats. -/
def zN (α : Nat → Nat) (k : Nat) : Nat → Nat := fun j => if j < k then 0 else α j
theorem zN_0 (α : Nat → Nat) : zN α 0 = α := by funext j; simp [zN]
theorem zN_s (α : Nat → Nat) (i : Nat) : upd (nF (zN α i)) i (nI 0) = nF (zN α (i + 1)) := by
  rw [nF_u]; congr 1; funext j; unfold updN zN
  by_cases h : j = i
  · subst h; rw [if_pos rfl, if_pos (by omega)]
  · rw [if_neg h]
    by_cases h2 : j < i
    · rw [if_pos h2, if_pos (by omega)]
    · rw [if_neg h2, if_neg (by omega)]
def by8 (α : Nat → Nat) : Prop := ∀ i : Nat, α i < 256
theorem by8_u {α : Nat → Nat} {i v : Nat} (h : by8 α) (hv : v < 256) : by8 (updN α i v) := by
  intro j; unfold updN; by_cases e : j = i
  · rw [if_pos e]; exact hv
  · rw [if_neg e]; exact h j
theorem by8_z {α : Nat → Nat} {k : Nat} (h : by8 α) : by8 (zN α k) := by
  intro j; unfold zN; by_cases e : j < k
  · rw [if_pos e]; omega
  · rw [if_neg e]; exact h j
def r_cmp (α β : Nat → Nat) : Nat → Nat → Int32 → Int32
  | 0, _, od => od
  | d + 1, i, od => r_cmp α β d (i + 1) (if α i < β i then -1 else if β i < α i then nI 1 else od)
def r_bytes (α : Nat → Nat) : Nat → Nat → Nat → Nat
  | 0, _, z => z
  | d + 1, i, z => r_bytes α d (i + 1) (if 0 < α i then i + 1 else z)
def r_open1 (s m k : Nat) (f : Nat → Nat) : Nat → Nat := if s + k < 3 then f else if s + k - 3 < 40 then updN f (s + k - 3) (m / 2 ^ (8 * k) % 256) else f
def r_openL (s m : Nat) : Nat → Nat → (Nat → Nat) → (Nat → Nat)
  | 0, _, f => f
  | d + 1, k, f => r_openL s m d (k + 1) (r_open1 s m k f)
def r_open (v : Nat) (α : Nat → Nat) : Nat → Nat := r_openL (v / 16777216) (v % 8388608) 3 0 (zN α 40)
theorem r_open1_by {s m k : Nat} {f : Nat → Nat} (h : by8 f) : by8 (r_open1 s m k f) := by
  unfold r_open1
  by_cases h1 : s + k < 3
  · rw [if_pos h1]; exact h
  · rw [if_neg h1]
    by_cases h2 : s + k - 3 < 40
    · rw [if_pos h2]; exact by8_u h (Nat.mod_lt _ (by omega))
    · rw [if_neg h2]; exact h
theorem r_openL_by {s m : Nat} : ∀ {d k : Nat} {f : Nat → Nat}, by8 f → by8 (r_openL s m d k f) := by
  intro d
  induction d with
  | zero => intro k f h; exact h
  | succ d ih => intro k f h; exact ih (r_open1_by h)
theorem r_open_by {v : Nat} {α : Nat → Nat} (h : by8 α) : by8 (r_open v α) := r_openL_by (by8_z h)
theorem op_lt {pl : Int32} {s k : Nat} (e : pl = nI s - nI 3 + nI k) (c : pl < 0) (hs : s < 2 ^ 20) (hk : k < 2 ^ 20) : s + k < 3 := by
  subst e
  rcases Nat.lt_or_ge (s + k) 3 with h | h
  · exact h
  · exfalso
    have e2 : nI s - nI 3 + nI k = nI (s + k - 3) := by
      have : nI s + nI k - nI 3 = nI (s + k - 3) := by rw [nI_add, pk_sub h]
      rw [← this, Int32.sub_eq_add_neg, Int32.sub_eq_add_neg, Int32.add_assoc, Int32.add_comm (-nI 3), ← Int32.add_assoc]
    rw [e2] at c
    exact nI_pos (by omega) c
theorem op_ge {pl : Int32} {s k : Nat} (e : pl = nI s - nI 3 + nI k) (c : ¬ pl < 0) (hs : s < 2 ^ 20) (hk : k < 2 ^ 20) : ∃ q : Nat, q + 3 = s + k ∧ pl = nI q := by
  subst e
  have e1 : nI s - nI 3 + nI k = nI (s + k) - nI 3 := by rw [← nI_add, Int32.sub_eq_add_neg, Int32.sub_eq_add_neg, Int32.add_assoc, Int32.add_comm (-nI 3), ← Int32.add_assoc]
  rcases Nat.lt_or_ge (s + k) 3 with h | h
  · exfalso; rw [e1] at c; exact c (pk_sneg (by omega) h)
  · exact ⟨s + k - 3, by omega, by rw [e1, pk_sub h]⟩
theorem op_v {m k : Nat} (hm : m < 2 ^ 62) (hk : k < 8) : (j_shr (lN m) (nI (8 * k)) &&& lN 255).toInt32 = nI (m / 2 ^ (8 * k) % 256) := by
  unfold j_shr
  have h1 : m / 2 ^ (8 * k) ≤ m := Nat.div_le_self _ _
  rw [l_shr m (8 * k) (by omega) hm, g_mask (p := 256) (s := 8) rfl (by omega) (by omega), lN_i]
theorem n_sneg {a b : Nat} (c : nI a - nI b < 0) (ha : a < 2 ^ 30) (hb : b < 2 ^ 30) : a < b := by
  rw [Int32.lt_iff_toInt_lt, pk_sub_toInt ha hb, Int32.toInt_zero] at c; omega
theorem n_snn {a b : Nat} (c : ¬ nI a - nI b < 0) (ha : a < 2 ^ 30) (hb : b < 2 ^ 30) : b ≤ a := by
  rw [Int32.lt_iff_toInt_lt, pk_sub_toInt ha hb, Int32.toInt_zero] at c; omega
theorem n_sle {a b : Nat} (c : nI a - nI b ≤ 0) (ha : a < 2 ^ 30) (hb : b < 2 ^ 30) : a ≤ b := by
  rw [Int32.le_iff_toInt_le, pk_sub_toInt ha hb, Int32.toInt_zero] at c; omega
theorem n_snle {a b : Nat} (c : ¬ nI a - nI b ≤ 0) (ha : a < 2 ^ 30) (hb : b < 2 ^ 30) : b < a := by
  rw [Int32.le_iff_toInt_le, pk_sub_toInt ha hb, Int32.toInt_zero] at c; omega
theorem n_sge {a b : Nat} (c : 0 ≤ nI a - nI b) (ha : a < 2 ^ 30) (hb : b < 2 ^ 30) : b ≤ a := by
  rw [Int32.le_iff_toInt_le, pk_sub_toInt ha hb, Int32.toInt_zero] at c; omega
theorem n_snge {a b : Nat} (c : ¬ 0 ≤ nI a - nI b) (ha : a < 2 ^ 30) (hb : b < 2 ^ 30) : a < b := by
  rw [Int32.le_iff_toInt_le, pk_sub_toInt ha hb, Int32.toInt_zero] at c; omega
def r_cm (α : Nat → Nat) (z : Nat) : Nat → Nat → Nat → Nat
  | 0, _, m => m
  | d + 1, k, m => r_cm α z d (k + 1) (m * 256 + (if z < k then 0 else α (z - k)))
def r_compact (α : Nat → Nat) : Nat :=
  if r_cm α (r_bytes α 40 0 0) 3 1 0 < 8388608 then r_bytes α 40 0 0 * 16777216 + r_cm α (r_bytes α 40 0 0) 3 1 0
  else (r_bytes α 40 0 0 + 1) * 16777216 + r_cm α (r_bytes α 40 0 0) 3 1 0 / 256
theorem r_bytes_le {α : Nat → Nat} : ∀ {d i z : Nat}, z ≤ i → r_bytes α d i z ≤ i + d := by
  intro d
  induction d with
  | zero => intro i z h; exact h
  | succ d ih =>
    intro i z h
    rw [r_bytes]
    by_cases c : 0 < α i
    · rw [if_pos c]; have := ih (i := i + 1) (z := i + 1) (by omega); omega
    · rw [if_neg c]; have := ih (i := i + 1) (z := z) (by omega); omega
def r_lo (α : Nat → Nat) (b : Nat) : Nat → Nat → Nat
  | 0, v => v
  | k + 1, v => r_lo α b k (v * 256 + α (b + k))
theorem lo_s {v b k : Nat} (hv : v < 256 ^ (8 - (k + 1))) (hk : k + 1 ≤ 8) (hb : b < 256) : v * 256 + b < 256 ^ (8 - k) := by
  have e : 8 - k = (8 - (k + 1)) + 1 := by omega
  rw [e, Nat.pow_succ]
  omega
theorem lo_64 {v k : Nat} (h : v < 256 ^ (8 - k)) : v < 2 ^ 64 := by
  have h1 : 256 ^ (8 - k) ≤ 256 ^ 8 := Nat.pow_le_pow_right (by omega) (by omega)
  have h2 : (256 : Nat) ^ 8 = 2 ^ 64 := by decide
  omega
theorem lo_or {v b k : Nat} (hv : v < 256 ^ (8 - (k + 1))) (hk : k + 1 ≤ 8) (hb : b < 256) : (j_shl (lN v) (nI 8) ||| lN b) = lN (v * 256 + b) := by
  unfold j_shl
  rw [wb_shl v (k := 8) (by omega)]
  exact g_or (k := 8) rfl hb (lo_64 (lo_s hv hk hb))
