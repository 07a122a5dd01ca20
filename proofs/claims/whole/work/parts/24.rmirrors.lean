def r_bel (P Hh : Nat → Nat) (j h : Nat) : Int32 := if h ≤ Hh j then nI (m_anc P (Hh j - h) j) else -1
def r_cl (t : Int64) : Nat := if 1200 ≤ t then (if t ≤ 19200 then t.toBitVec.toNat else 19200) else 1200
theorem r_cl_1 {t : Int64} (h : ¬ 1200 ≤ t) : lN 1200 = lN (r_cl t) := by unfold r_cl; rw [if_neg h]
theorem r_cl_2 {t : Int64} (h : 1200 ≤ t) (h2 : ¬ t ≤ 19200) : lN 19200 = lN (r_cl t) := by unfold r_cl; rw [if_pos h, if_neg h2]
theorem r_cl_3 {t : Int64} (h : 1200 ≤ t) (h2 : t ≤ 19200) : t = lN (r_cl t) := by
  unfold r_cl; rw [if_pos h, if_pos h2]
  exact wb_inj (by rw [wb_tb]; simp)
theorem r_cl_le (t : Int64) : r_cl t ≤ 19200 := by
  unfold r_cl
  by_cases h : 1200 ≤ t
  · rw [if_pos h]
    by_cases h2 : t ≤ 19200
    · rw [if_pos h2]
      obtain ⟨n, hn, e⟩ := wb_of t
      subst e
      rw [wb_tn hn]
      rw [Int64.le_iff_toInt_le] at h h2
      have e1 : (1200 : Int64).toInt = 1200 := by decide
      have e2 : (19200 : Int64).toInt = 19200 := by decide
      rw [e1] at h; rw [e2] at h2
      have c := BitVec.toInt_eq_toNat_cond (lN n).toBitVec
      rw [wb_tn hn] at c
      have c' : (lN n).toInt = if 2 * n < 2 ^ 64 then (n : Int) else (n : Int) - ((2 ^ 64 : Nat) : Int) := c
      by_cases hh : 2 * n < 2 ^ 64
      · rw [if_pos hh] at c'; omega
      · rw [if_neg hh] at c'; omega
    · rw [if_neg h2]; omega
  · rw [if_neg h]; omega
def r_mustA (v : Nat) (t : Int64) (α : Nat → Nat) : Nat → Nat := r_scale (r_cl t) 4800 (r_open v α)
def r_must (v : Nat) (t : Int64) (α β : Nat → Nat) : Nat := if r_cmp (r_mustA v t α) (r_open 545259519 β) 40 0 (nI 0) ≤ 0 then r_compact (r_mustA v t α) else r_compact (r_open 545259519 β)
theorem r_mustA_by {v : Nat} {t : Int64} {α : Nat → Nat} (h : by8 α) : by8 (r_mustA v t α) := r_divL_by (by omega) (r_mulL_by (r_open_by h)) (by omega)
theorem m_med_0 (P : Nat → Nat) (T : Nat → Int64) (d c : Nat) (g : Nat → Int64) : m_med P T d c 0 g = (g, c) := by cases d <;> rfl
def r_ch (P : Nat → Nat) (j : Nat) : Nat → Nat → Nat → Nat
  | 0, _, c => c
  | d + 1, i, c => r_ch P j d (i + 1) (if pF P i = nI j then c + 1 else c)
def shf (S : Nat → Nat) (b : Nat) : Nat → Nat := fun i => S (b + i)
def r_tip (Z : Nat → Nat) (S : Nat → Nat) : Nat → Nat → Nat → Nat
  | 0, _, x => x
  | d + 1, i, x => if Z i = 0 then (if r_cmp (shf S (40 * i)) (shf S (40 * x)) 40 0 (nI 0) ≤ 0 then r_tip Z S d (i + 1) x else r_tip Z S d (i + 1) i) else r_tip Z S d (i + 1) x
def r_fork (P Hh : Nat → Nat) (y : Nat) : Nat → Nat → Nat
  | 0, u => u
  | d + 1, u => if r_bel P Hh y (Hh u) = nI u then u else r_fork P Hh y d (P u)
theorem anc_root {P Hh : Nat → Nat} {n : Nat} (hp : ∀ x : Nat, 0 < x → x < n → P x < x) (h0 : Hh 0 = 0) (hs : ∀ x : Nat, 0 < x → x < n → Hh x = Hh (P x) + 1) : ∀ {d x : Nat}, x < n → Hh x = d → m_anc P d x = 0 := by
  intro d
  induction d with
  | zero =>
    intro x hx hd
    rcases Nat.eq_zero_or_pos x with h | h
    · exact h
    · have := hs x h hx; omega
  | succ d ih =>
    intro x hx hd
    have h : 0 < x := by rcases Nat.eq_zero_or_pos x with h | h; (subst h; omega); exact h
    rw [m_anc, if_neg (by omega)]
    have h1 := hs x h hx; have h2 := hp x h hx
    exact ih (by omega) (by omega)
def r_row : Nat → Nat → Nat → Nat → Option Nat
  | 0, hh, _, _ => some hh
  | d + 1, hh, sp, i => if hh = 0 then none else if i < 9 then r_row d (hh - 1) 1 (i + 1) else r_row d (hh - 2 * sp) (2 * sp) (i + 1)
def r_own (m : Nat) : Nat := if m = 0 then 0 else if m < 256 then 1 else if m < 65536 then 2 else 3
theorem r_own_le (m : Nat) : r_own m ≤ 3 := by
  unfold r_own; by_cases h : m = 0
  · rw [if_pos h]; omega
  · rw [if_neg h]; by_cases h2 : m < 256
    · rw [if_pos h2]; omega
    · rw [if_neg h2]; by_cases h3 : m < 65536
      · rw [if_pos h3]; omega
      · rw [if_neg h3]; omega
def r_fault (v : Nat) (α β : Nat → Nat) : Int32 :=
  if v / 8388608 % 2 = 1 ∧ 0 < v % 8388608 then nI 1
  else if r_own (v % 8388608) + v / 16777216 ≤ 3 then nI 2 else if r_own (v % 8388608) = 0 then nI 2
  else if r_own (v % 8388608) + v / 16777216 - 3 ≤ 32 then (if r_cmp (r_open v α) (r_open 545259519 β) 40 0 (nI 0) ≤ 0 then nI 0 else nI 4) else nI 3
def r_by (v : Int64) (k : Nat) : Nat := uN v / 2 ^ (8 * (k % 8)) % 256
def r_word (w x y z : Int64) (k : Nat) : Int64 := if k < 8 then z else if k < 16 then y else if k < 24 then x else w
def r_cpL (w x y z : Int64) : Nat → Nat → (Nat → Nat) → (Nat → Nat)
  | 0, _, f => f
  | d + 1, k, f => r_cpL w x y z d (k + 1) (updN f k (r_by (r_word w x y z k) k))
theorem r_cpL_by {w x y z : Int64} : ∀ {d k : Nat} {f : Nat → Nat}, by8 f → by8 (r_cpL w x y z d k f) := by
  intro d
  induction d with
  | zero => intro k f h; exact h
  | succ d ih => intro k f h; exact ih (by8_u h (Nat.mod_lt _ (by omega)))
theorem uN_t (v : Int64) : uN v = v.toBitVec.toNat := rfl
theorem by_v {v : Int64} {k : Nat} (hk : k < 64) : (j_shr v (nI k) &&& lN 255).toInt32 = nI (uN v / 2 ^ k % 256) ∨ 56 < k := by
  rcases Nat.lt_or_ge 56 k with h | h
  · exact Or.inr h
  · left
    unfold j_shr
    have e1 : (v >>> ((nI k).toInt64 &&& 63)).toBitVec = v.toBitVec.sshiftRight k := by
      rw [Int64.toBitVec_shiftRight, wb_c k hk, wb_tb, wb_sm k hk]
      simp only [BitVec.sshiftRight_eq', BitVec.toNat_ofNat]
      rw [Nat.mod_eq_of_lt (by omega)]
    have e2 : (v >>> ((nI k).toInt64 &&& 63)) &&& lN 255 = lN (uN v / 2 ^ k % 256) := by
      apply wb_inj
      rw [Int64.toBitVec_and, e1, wb_tb, wb_tb]
      apply BitVec.eq_of_getLsbD_eq
      intro i hi
      have h255 : (BitVec.ofNat 64 255).getLsbD i = decide (i < 8) := by
        rw [BitVec.getLsbD_ofNat]
        have : ∀ i, i < 64 → (decide (i < 64) && Nat.testBit 255 i) = decide (i < 8) := by decide +kernel
        exact this i hi
      rw [BitVec.getLsbD_and, h255, BitVec.getLsbD_ofNat, show (256 : Nat) = 2 ^ 8 from rfl, Nat.testBit_mod_two_pow, BitVec.getLsbD_sshiftRight]
      by_cases h8 : i < 8
      · have hk64 : k + i < 64 := by omega
        simp [h8, hi, hk64, show ¬ 64 ≤ i by omega, Nat.testBit_div_two_pow, uN_t, BitVec.getLsbD, Nat.add_comm]
      · simp [h8]
    rw [e2, lN_i]
theorem by_w {v : Int64} {k : Nat} : (j_shr v (nI (8 * (k % 8))) &&& lN 255).toInt32 = nI (r_by v k) := by
  rcases by_v (v := v) (k := 8 * (k % 8)) (by omega) with h | h
  · exact h
  · omega
