/-! MUST: class and reference -/
theorem vV_get {h : Nat → Nat} : ∀ {n i : Nat}, (∀ j, j < n → h j < 4294967296) → i < n → h i = vV h n / 4294967296 ^ (n - 1 - i) % 4294967296 := by
  intro n
  induction n with
  | zero => intro i _ h; omega
  | succ n ih =>
    intro i hb hi
    have hn := hb n (by omega)
    rw [vV]
    by_cases e : i = n
    · subst e; rw [Nat.add_sub_cancel, Nat.sub_self, Nat.pow_zero, Nat.div_one]; omega
    · rw [show n + 1 - 1 - i = (n - 1 - i) + 1 by omega, Nat.pow_succ, Nat.mul_comm (4294967296 ^ _) 4294967296, ← Nat.div_div_eq_div_mul, show (vV h n * 4294967296 + h n) / 4294967296 = vV h n by omega]
      exact ih (fun j hj => hb j (by omega)) (by omega)
theorem lim_get {g : Nat → Int64} {h : Nat → Nat} {n i N : Nat} (hl : lim g h n) (hN : vV h n = N) (hi : i < n) : g i = lN (N / 4294967296 ^ (n - 1 - i) % 4294967296) := by
  rw [(hl i hi).1, vV_get (fun j hj => (hl j hj).2) hi, hN]
theorem lim_join {g : Nat → Int64} {h : Nat → Nat} {n i N : Nat} (hl : lim g h n) (hN : vV h n = N) (hi : i + 1 < n) : m_join (g i) (g (i + 1)) = lN (N / 4294967296 ^ (n - 2 - i) % 18446744073709551616) := by
  rw [lim_get hl hN (show i < n by omega), lim_get hl hN hi, l_join (Nat.mod_lt _ (by omega)) (Nat.mod_lt _ (by omega))]
  have e : N / 4294967296 ^ (n - 1 - i) = N / 4294967296 ^ (n - 2 - i) / 4294967296 := by
    rw [Nat.div_div_eq_div_mul, ← Nat.pow_succ, show (n - 2 - i).succ = n - 1 - i by omega]
  rw [e, show n - 1 - (i + 1) = n - 2 - i by omega]
  generalize N / 4294967296 ^ (n - 2 - i) = M
  rw [show M / 4294967296 % 4294967296 * 4294967296 + M % 4294967296 = M % 18446744073709551616 by omega]
theorem cl_V (t : Int64) : m_clamp t = lN (r_cl t) := by
  unfold m_clamp
  by_cases h1 : 1200 ≤ t
  · by_cases h2 : t ≤ 19200
    · rw [← r_cl_3 h1 h2]
      by_cases h3 : t < 19200
      · rw [if_pos h3, if_neg (Int64.not_lt.mpr h1)]
      · rw [if_neg h3, if_neg (by decide)]
        exact Int64.le_antisymm (Int64.not_lt.mp h3) h2
    · rw [← r_cl_2 h1 h2, if_neg (fun q => h2 (Int64.le_of_lt q)), if_neg (by decide)]; rfl
  · rw [← r_cl_1 h1]
    have h2 : t < 1200 := Int64.not_le.mp h1
    have h3 : t < 19200 := Int64.lt_trans h2 (by decide)
    rw [if_pos h3, if_pos h2]; rfl
theorem pr_W {v : Nat} {t : Int64} {pr : Nat → Int64} {hp : Nat → Nat} (hv : v < 4294967296) (hT : tgt v < 4294967296 ^ 8) (hl : lim pr hp 9) : ∃ h' : Nat → Nat, lim (m_pr (lN v) t pr) h' 9 ∧ vV h' 9 = tgt v * r_cl t / 4800 := by
  have hth : ∀ i, i < 8 → m_th (lN v) i = lN ((fun i => tgt v / 4294967296 ^ (7 - i) % 4294967296) i) ∧ (fun i => tgt v / 4294967296 ^ (7 - i) % 4294967296) i < 4294967296 := fun i hi => m_th_V hv hi
  have e : vV (fun i => tgt v / 4294967296 ^ (7 - i) % 4294967296) 8 = tgt v := by
    rw [vV_dig (N := tgt v) (n := 8) (fun i _ => rfl) (Nat.le_refl _), Nat.sub_self, Nat.pow_zero, Nat.div_one, Nat.mod_eq_of_lt hT]
  obtain ⟨h1, a1, -, a3⟩ := mulc_V (n := 8) (r_cl_le t) hth 8 pr hp 0 (Nat.le_refl _) hl (by omega)
  rw [e, Nat.add_zero] at a3
  obtain ⟨h2, r', b1, -, b3, b4⟩ := divc_V (n := 9) 9 0 _ h1 0 rfl a1 (by omega)
  refine ⟨h2, ?_, ?_⟩
  · unfold m_pr m_div m_mul
    rw [cl_V]
    exact b1
  · have c1 : vT h1 0 9 = tgt v * r_cl t := vT_0 a3
    rw [c1, Nat.zero_mul, Nat.zero_add] at b4
    have c2 : vV h2 9 = vT h2 0 9 := by have := vV_T (h := h2) (d := 9) (i := 0); rw [Nat.zero_add, vV, Nat.zero_mul, Nat.zero_add] at this; exact this
    rw [c2]
    exact ar_q5 b4.symm b3
theorem mustA_V {v : Nat} {t : Int64} {α : Nat → Nat} (hv : v < 4294967296) (hT : tgt v < 4294967296 ^ 8) : sV (r_mustA v t α) 0 40 = tgt v * r_cl t / 4800 := by
  have hc := r_cl_le t
  have h40 : tgt v * r_cl t < 256 ^ 40 := by
    have h1 : tgt v * r_cl t ≤ 4294967296 ^ 8 * 19200 := Nat.mul_le_mul (Nat.le_of_lt hT) hc
    have h2 : (4294967296 : Nat) ^ 8 * 19200 < 256 ^ 40 := by decide
    exact Nat.lt_of_le_of_lt h1 h2
  have hT40 : tgt v < 256 ^ 40 := Nat.lt_trans hT (by decide)
  obtain ⟨co, -, a2⟩ := mul_V (r_cl t) 40 0 0 (r_open v α)
  rw [op_V hv hT40, Nat.add_zero] at a2
  have a3 := ar_co a2 h40
  obtain ⟨r', b1, -, b3⟩ := div_V (q := 4800) (by omega) 40 0 (r_mulL (r_cl t) 40 0 0 (r_open v α)) (by omega)
  rw [a3, Nat.zero_mul, Nat.zero_add] at b3
  exact ar_q5 b3.symm b1
def LT : Nat := tgt 545259519
theorem LT_e : LT = 9223370937343148032 * 2 ^ 192 := by decide +kernel
theorem r_bytes_congr {α β : Nat → Nat} : ∀ {d i z : Nat}, (∀ j, i ≤ j → j < i + d → α j = β j) → r_bytes α d i z = r_bytes β d i z := by
  intro d
  induction d with
  | zero => intro i z _; rfl
  | succ d ih => intro i z h; rw [r_bytes, r_bytes, h i (by omega) (by omega), ih (fun j a b => h j (by omega) (by omega))]
theorem r_cm_congr {α β : Nat → Nat} {z n : Nat} (hz : z ≤ n) (h : ∀ j, j < n → α j = β j) : ∀ {d k m : Nat}, 1 ≤ k → r_cm α z d k m = r_cm β z d k m := by
  intro d
  induction d with
  | zero => intro k m _; rfl
  | succ d ih =>
    intro k m hk
    have e : (if z < k then 0 else α (z - k)) = (if z < k then 0 else β (z - k)) := by
      by_cases c : z < k
      · rw [if_pos c, if_pos c]
      · rw [if_neg c, if_neg c, h (z - k) (by omega)]
    rw [r_cm, r_cm, e, ih (by omega)]
theorem r_compact_congr {α β : Nat → Nat} (h : ∀ j, j < 40 → α j = β j) : r_compact α = r_compact β := by
  have e1 : r_bytes α 40 0 0 = r_bytes β 40 0 0 := r_bytes_congr (fun j _ b => h j (by omega))
  have hz : r_bytes β 40 0 0 ≤ 40 := r_bytes_le (i := 0) (d := 40) (z := 0) (Nat.le_refl _)
  have e2 : r_cm α (r_bytes β 40 0 0) 3 1 0 = r_cm β (r_bytes β 40 0 0) 3 1 0 := r_cm_congr hz h (Nat.le_refl _)
  unfold r_compact
  rw [e1, e2]
theorem compact_LT {α : Nat → Nat} (h8 : by8 α) (hV : sV α 0 40 = LT) : r_compact α = 545259519 := by
  have e : r_compact α = r_compact (fun j => LT / 256 ^ j % 256) := by
    apply r_compact_congr
    intro j hj
    have := sV_get h8 (d := 40) (i := 0) (k := j) hj
    rw [hV, Nat.zero_add] at this
    exact this
  rw [e]
  decide +kernel
/-- the bytes of the four words of a number -/
theorem words_V {N : Nat} {α : Nat → Nat} {n : Nat} (hn : n = 40) (h8 : by8 α) (hV : sV α 0 n = N) (hN : N < 2 ^ 256) : ∀ k, k < 32 → m_byte (lN (N / 2 ^ 192 % 18446744073709551616)) (lN (N / 2 ^ 128 % 18446744073709551616)) (lN (N / 2 ^ 64 % 18446744073709551616)) (lN (N % 18446744073709551616)) (nI k) = lN (α k) := by
  intro k hk
  rw [byte_w hk]
  have e := sV_get h8 (d := n) (i := 0) (k := k) (by omega)
  rw [hV, Nat.zero_add, show (256 : Nat) ^ k = 2 ^ (8 * k) by rw [Nat.pow_mul]] at e
  have key : ∀ j, k / 8 = j → j < 4 → N / 2 ^ (64 * j) % 18446744073709551616 / 2 ^ (8 * (k % 8)) % 256 = N / 2 ^ (8 * k) % 256 := by
    intro j hj _
    have e1 : N / 2 ^ (8 * k) = N / 2 ^ (64 * j) / 2 ^ (8 * (k % 8)) := by
      rw [Nat.div_div_eq_div_mul, ← Nat.pow_add]; congr 2; omega
    rw [e1]
    generalize N / 2 ^ (64 * j) = M
    have e2 : (18446744073709551616 : Nat) = 2 ^ (8 * (k % 8)) * 2 ^ (64 - 8 * (k % 8)) := by rw [← Nat.pow_add, show 8 * (k % 8) + (64 - 8 * (k % 8)) = 64 by omega]
    have e3 : (2 : Nat) ^ (64 - 8 * (k % 8)) = 256 * 2 ^ (56 - 8 * (k % 8)) := by rw [show (256 : Nat) = 2 ^ 8 from rfl, ← Nat.pow_add]; congr 1; omega
    rw [e2, Nat.mod_mul_right_div_self, e3, Nat.mod_mul_right_mod]
  have hu : ∀ x, x % 18446744073709551616 < 2 ^ 64 := fun x => Nat.mod_lt _ (by omega)
  unfold r_by r_word
  rw [e]
  by_cases h1 : k < 8
  · rw [if_pos h1]
    have := key 0 (by omega) (by omega)
    rw [Nat.mul_zero, Nat.pow_zero, Nat.div_one] at this
    rw [show uN (lN (N % 18446744073709551616)) = N % 18446744073709551616 from wb_tn (hu _), this]
  · rw [if_neg h1]
    by_cases h2 : k < 16
    · rw [if_pos h2, show uN (lN (N / 2 ^ 64 % 18446744073709551616)) = N / 2 ^ 64 % 18446744073709551616 from wb_tn (hu _)]
      have := key 1 (by omega) (by omega)
      rw [Nat.mul_one] at this
      rw [this]
    · rw [if_neg h2]
      by_cases h3 : k < 24
      · rw [if_pos h3, show uN (lN (N / 2 ^ 128 % 18446744073709551616)) = N / 2 ^ 128 % 18446744073709551616 from wb_tn (hu _), ← key 2 (by omega) (by omega)]
      · rw [if_neg h3, show uN (lN (N / 2 ^ 192 % 18446744073709551616)) = N / 2 ^ 192 % 18446744073709551616 from wb_tn (hu _), ← key 3 (by omega) (by omega)]
theorem hi_0 {N : Nat} {α : Nat → Nat} {n : Nat} (hn : n = 40) (h8 : by8 α) (hV : sV α 0 n = N) (hN : N < 2 ^ 256) : ∀ k, 32 ≤ k → k < 40 → α k = 0 := by
  intro k h1 h2
  have e := sV_get h8 (d := n) (i := 0) (k := k) (by omega)
  rw [hV, Nat.zero_add, show (256 : Nat) ^ k = 2 ^ (8 * k) by rw [Nat.pow_mul], Nat.div_eq_of_lt (Nat.lt_of_lt_of_le hN (Nat.pow_le_pow_right (by omega) (by omega)))] at e
  exact e
/-- PROMISE 4's bits, class and reference -/
theorem must_eq {v : Nat} {t : Int64} {pr : Nat → Int64} {hp α β : Nat → Nat} (hv : v < 4294967296) (hT : tgt v < 2 ^ 256) (hl : lim pr hp 9) (ha : by8 α) (hb : by8 β) : m_next (m_pr (lN v) t pr) = lN (r_must v t α β) := by
  have hB8 : (4294967296 : Nat) ^ 8 = 2 ^ 256 := by decide
  obtain ⟨h', l', V'⟩ := pr_W (t := t) hv (by rw [hB8]; exact hT) hl
  have A' := mustA_V (t := t) (α := α) hv (by rw [hB8]; exact hT)
  have B' : sV (r_open 545259519 β) 0 40 = LT := op_V (by omega) (by decide +kernel)
  have cm := cmp_le0 (d := 40) (r_mustA_by (v := v) (t := t) ha) (r_open_by (v := 545259519) hb)
  rw [A', B'] at cm
  unfold r_must
  generalize tgt v * r_cl t / 4800 = Q at *
  have g0 := lim_get l' V' (show 0 < 9 by omega)
  have j1 := lim_join l' V' (show 1 + 1 < 9 by omega)
  have j3 := lim_join l' V' (show 3 + 1 < 9 by omega)
  have j5 := lim_join l' V' (show 5 + 1 < 9 by omega)
  have j7 := lim_join l' V' (show 7 + 1 < 9 by omega)
  have q9 : Q < 4294967296 ^ 9 := by rw [← V']; exact vV_lt (fun i hi => (l' i hi).2)
  have w6 : (4294967296 : Nat) ^ (9 - 2 - 1) = 2 ^ 192 := by decide
  have w4 : (4294967296 : Nat) ^ (9 - 2 - 3) = 2 ^ 128 := by decide
  have w2 : (4294967296 : Nat) ^ (9 - 2 - 5) = 2 ^ 64 := by decide
  have w0 : (4294967296 : Nat) ^ (9 - 2 - 7) = 1 := by decide
  have w8 : (4294967296 : Nat) ^ (9 - 1 - 0) = 2 ^ 256 := by decide
  have w9 : (4294967296 : Nat) ^ 9 = 2 ^ 256 * 4294967296 := by decide
  rw [w6] at j1; rw [w4] at j3; rw [w2] at j5; rw [w0, Nat.div_one] at j7; rw [w8] at g0
  rw [w9] at q9
  have hL := LT_e
  have p192 : (2 : Nat) ^ 256 = 2 ^ 192 * 18446744073709551616 := by decide
  unfold m_next
  rw [g0, j1, j3, j5, j7]
  by_cases c : Q < LT
  · have q256 : Q < 2 ^ 256 := by rw [hL] at c; exact Nat.lt_trans c (by decide)
    have d0 : Q / 2 ^ 256 % 4294967296 = 0 := by rw [Nat.div_eq_of_lt q256]
    have d1 : Q / 2 ^ 192 < 9223370937343148032 := (Nat.div_lt_iff_lt_mul (Nat.pow_pos (by omega))).mpr (by rw [← hL]; exact c)
    rw [d0, if_pos (by rfl), if_pos (cm.mpr (Nat.le_of_lt c))]
    have d2 : Q / 2 ^ 192 % 18446744073709551616 = Q / 2 ^ 192 := Nat.mod_eq_of_lt (by omega)
    have s1 := short_V (words_V rfl (r_mustA_by (v := v) (t := t) ha) A' q256) (r_mustA_by ha) (hi_0 rfl (r_mustA_by ha) A' q256)
    rw [d2] at s1 ⊢
    generalize Q / 2 ^ 192 = x at *
    have n1 : ¬ lN x < 0 := by
      intro q
      have : lN x < lN 0 := q
      have := (pk_lLT (by omega) (by omega)).mp this
      omega
    have n2 : lN x < 9223370937343148032 := by
      show lN x < lN 9223370937343148032
      exact (pk_lLT (by omega) (by omega)).mpr d1
    rw [if_neg n1, if_pos n2]
    exact s1
  · have hr : (if r_cmp (r_mustA v t α) (r_open 545259519 β) 40 0 (nI 0) ≤ 0 then r_compact (r_mustA v t α) else r_compact (r_open 545259519 β)) = 545259519 := by
      by_cases c2 : r_cmp (r_mustA v t α) (r_open 545259519 β) 40 0 (nI 0) ≤ 0
      · rw [if_pos c2]
        have := cm.mp c2
        exact compact_LT (r_mustA_by ha) (by rw [A']; omega)
      · rw [if_neg c2]
        exact compact_LT (r_open_by hb) B'
    rw [hr]
    by_cases e0 : Q / 2 ^ 256 % 4294967296 = 0
    · have e1 : Q < 2 ^ 256 := by
        have h1 : Q / 2 ^ 256 < 4294967296 := (Nat.div_lt_iff_lt_mul (Nat.pow_pos (by omega))).mpr (by rw [Nat.mul_comm]; exact q9)
        have h2 : Q / 2 ^ 256 = 0 := by omega
        exact (Nat.div_eq_zero_iff_lt (Nat.pow_pos (by omega))).mp h2
      have d1 : 9223370937343148032 ≤ Q / 2 ^ 192 := (Nat.le_div_iff_mul_le (Nat.pow_pos (by omega))).mpr (by rw [← hL]; omega)
      have d3 : Q / 2 ^ 192 < 18446744073709551616 := (Nat.div_lt_iff_lt_mul (Nat.pow_pos (by omega))).mpr (by rw [Nat.mul_comm, ← p192]; exact e1)
      rw [e0, if_pos (by rfl), Nat.mod_eq_of_lt d3]
      generalize Q / 2 ^ 192 = x at *
      by_cases n1 : lN x < 0
      · rw [if_pos n1]; rfl
      · rw [if_neg n1]
        have hx : x < 2 ^ 63 := by
          obtain ⟨k, hk, e⟩ := pk_lOf n1
          have h1 := wb_tn (n := x) (by omega)
          rw [e, wb_tn (by omega)] at h1
          omega
        rw [if_neg (fun q => by
          have q' : lN x < lN 9223370937343148032 := q
          have := (pk_lLT hx (by omega)).mp q'
          omega)]
        rfl
    · rw [if_neg (l_ne0 (by omega) (by omega))]; rfl
