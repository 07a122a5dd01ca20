/-! LIMBS of 32 bits, the highest first -/
def vV (h : Nat → Nat) : Nat → Nat
  | 0 => 0
  | k + 1 => vV h k * 4294967296 + h k
def lim (g : Nat → Int64) (h : Nat → Nat) (n : Nat) : Prop := ∀ i, i < n → g i = lN (h i) ∧ h i < 4294967296
theorem vV_congr {h h' : Nat → Nat} : ∀ {k : Nat}, (∀ i, i < k → h i = h' i) → vV h k = vV h' k := by
  intro k
  induction k with
  | zero => intro _; rfl
  | succ k ih => intro e; rw [vV, vV, ih (fun i hi => e i (by omega)), e k (by omega)]
theorem vV_lt {h : Nat → Nat} : ∀ {k : Nat}, (∀ i, i < k → h i < 4294967296) → vV h k < 4294967296 ^ k := by
  intro k
  induction k with
  | zero => intro _; simp [vV]
  | succ k ih =>
    intro e
    have h1 := ih (fun i hi => e i (by omega)); have h2 := e k (by omega)
    rw [vV, Nat.pow_succ]; omega
theorem vV_upd {h : Nat → Nat} {k j v : Nat} (hj : k ≤ j) : vV (updN h j v) k = vV h k := vV_congr (fun i hi => updN_ne (by omega))
theorem lim_u {g : Nat → Int64} {h : Nat → Nat} {n k v : Nat} (hl : lim g h n) (hv : v < 4294967296) : lim (vp_updL g k (lN v)) (updN h k v) n := by
  intro i hi
  by_cases e : i = k
  · subst e; rw [pk_uLs, updN_same]; exact ⟨rfl, hv⟩
  · rw [pk_uLn e, updN_ne e]; exact hl i hi
theorem l_and32 {a : Nat} (ha : a < 2 ^ 64) : lN a &&& 4294967295 = lN (a % 4294967296) := by
  show lN a &&& lN 4294967295 = _
  exact g_mask (p := 4294967296) (s := 32) rfl (by omega) ha
theorem l_us32 {a : Nat} (ha : a < 2 ^ 64) : j_ushr (lN a) (nI 32) = lN (a / 4294967296) := by
  unfold j_ushr; exact wb_shr ha (by omega)
theorem l_sh1or {a c : Nat} (ha : a < 4294967296) (hc : c < 2) : j_shl (lN a) (nI 1) ||| lN c = lN (2 * a + c) := by
  unfold j_shl
  rw [wb_shl a (k := 1) (by omega), Nat.mul_comm 2 a]
  exact g_or (k := 1) (p := 2) rfl hc (by omega)
theorem l_join {a c : Nat} (ha : a < 4294967296) (hc : c < 4294967296) : m_join (lN a) (lN c) = lN (a * 4294967296 + c) := by
  unfold m_join j_shl
  rw [wb_shl a (k := 32) (by omega)]
  exact g_or (k := 32) (p := 4294967296) rfl hc (by omega)
theorem tw_V {n : Nat} : ∀ (k : Nat) (g : Nat → Int64) (h : Nat → Nat) (c : Nat), k ≤ n → lim g h n → c < 2 → ∃ (h' : Nat → Nat) (co : Nat), lim (m_twL k g (lN c)) h' n ∧ (∀ i, k ≤ i → h' i = h i) ∧ vV h' k + co * 4294967296 ^ k = 2 * vV h k + c := by
  intro k
  induction k with
  | zero => intro g h c _ hl _; exact ⟨h, c, hl, fun _ _ => rfl, by simp [vV]⟩
  | succ k ih =>
    intro g h c hk hl hc
    obtain ⟨e1, e2⟩ := hl k (by omega)
    have e3 : m_twL (k + 1) g (lN c) = m_twL k (vp_updL g k (lN ((2 * h k + c) % 4294967296))) (lN ((2 * h k + c) / 4294967296)) := by
      show m_twL k (vp_updL g k ((j_shl (g k) (nI 1) ||| lN c) &&& 4294967295)) (j_ushr (j_shl (g k) (nI 1) ||| lN c) (nI 32)) = _
      rw [e1, l_sh1or e2 hc, l_and32 (by omega), l_us32 (by omega)]
    obtain ⟨h', co, a1, a2, a3⟩ := ih _ _ ((2 * h k + c) / 4294967296) (by omega) (lim_u (k := k) hl (Nat.mod_lt (2 * h k + c) (by omega))) (by omega)
    rw [e3]
    refine ⟨h', co, a1, fun i hi => by rw [a2 i (by omega), updN_ne (by omega)], ?_⟩
    have e4 : co * (4294967296 ^ k * 4294967296) = co * 4294967296 ^ k * 4294967296 := (Nat.mul_assoc _ _ _).symm
    rw [vV, vV, a2 k (Nat.le_refl k), updN_same, Nat.pow_succ, e4]
    rw [vV_upd (Nat.le_refl k)] at a3
    omega
theorem set_V {n : Nat} {b : Int64} {th : Nat → Nat} (hth : ∀ i, i < n → m_th b i = lN (th i) ∧ th i < 4294967296) : ∀ (k : Nat) (g : Nat → Int64) (h : Nat → Nat) (c : Nat), k ≤ n → lim g h n → c < 2 → ∃ (h' : Nat → Nat) (co : Nat), lim (m_setL b k g (lN c)) h' n ∧ (∀ i, k ≤ i → h' i = h i) ∧ vV h' k + co * 4294967296 ^ k = vV th k + c := by
  intro k
  induction k with
  | zero => intro g h c _ hl _; exact ⟨h, c, hl, fun _ _ => rfl, by simp [vV]⟩
  | succ k ih =>
    intro g h c hk hl hc
    obtain ⟨e1, e2⟩ := hth k (by omega)
    have e3 : m_setL b (k + 1) g (lN c) = m_setL b k (vp_updL g k (lN ((th k + c) % 4294967296))) (lN ((th k + c) / 4294967296)) := by
      show m_setL b k (vp_updL g k ((m_th b k + lN c) &&& 4294967295)) (j_ushr (m_th b k + lN c) (nI 32)) = _
      rw [e1, lN_add, l_and32 (by omega), l_us32 (by omega)]
    obtain ⟨h', co, a1, a2, a3⟩ := ih _ _ ((th k + c) / 4294967296) (by omega) (lim_u (k := k) hl (Nat.mod_lt (th k + c) (by omega))) (by omega)
    rw [e3]
    refine ⟨h', co, a1, fun i hi => by rw [a2 i (by omega), updN_ne (by omega)], ?_⟩
    have e4 : co * (4294967296 ^ k * 4294967296) = co * 4294967296 ^ k * 4294967296 := (Nat.mul_assoc _ _ _).symm
    rw [vV, vV, a2 k (Nat.le_refl k), updN_same, Nat.pow_succ, e4]
    omega
theorem sumc_V {F : Nat → Int64} {f : Nat → Nat} {x y m : Nat} (hf : ∀ i, i < 8 → F i = lN (f i) ∧ f i < 4294967296) (hxy : y < x) (hx : x * 8 + 8 ≤ m) : ∀ (k : Nat) (g : Nat → Int64) (h : Nat → Nat) (c : Nat), k ≤ 8 → lim g h m → c < 2 → ∃ (h' : Nat → Nat) (co : Nat), lim (m_sumL F x y k g (lN c)) h' m ∧ (∀ i, (i < x * 8 ∨ x * 8 + k ≤ i) → h' i = h i) ∧ vV (fun i => h' (x * 8 + i)) k + co * 4294967296 ^ k = vV (fun i => h (y * 8 + i)) k + vV f k + c := by
  intro k
  induction k with
  | zero => intro g h c _ hl _; exact ⟨h, c, hl, fun _ _ => rfl, by simp [vV]⟩
  | succ k ih =>
    intro g h c hk hl hc
    obtain ⟨e1, e2⟩ := hl (y * 8 + k) (by omega)
    obtain ⟨f1, f2⟩ := hf k (by omega)
    have e3 : m_sumL F x y (k + 1) g (lN c) = m_sumL F x y k (vp_updL g (x * 8 + k) (lN ((h (y * 8 + k) + f k + c) % 4294967296))) (lN ((h (y * 8 + k) + f k + c) / 4294967296)) := by
      show m_sumL F x y k (vp_updL g (x * 8 + k) ((g (y * 8 + k) + F k + lN c) &&& 4294967295)) (j_ushr (g (y * 8 + k) + F k + lN c) (nI 32)) = _
      rw [e1, f1, lN_add, lN_add, l_and32 (by omega), l_us32 (by omega)]
    obtain ⟨h', co, a1, a2, a3⟩ := ih _ _ ((h (y * 8 + k) + f k + c) / 4294967296) (by omega) (lim_u (k := x * 8 + k) hl (Nat.mod_lt (h (y * 8 + k) + f k + c) (by omega))) (by omega)
    rw [e3]
    refine ⟨h', co, a1, fun i hi => by rw [a2 i (by omega), updN_ne (by omega)], ?_⟩
    have e4 : co * (4294967296 ^ k * 4294967296) = co * 4294967296 ^ k * 4294967296 := (Nat.mul_assoc _ _ _).symm
    have e5 : vV (fun i => updN h (x * 8 + k) ((h (y * 8 + k) + f k + c) % 4294967296) (y * 8 + i)) k = vV (fun i => h (y * 8 + i)) k := vV_congr (fun i hi => updN_ne (by omega))
    rw [e5] at a3
    have e6 : h' (x * 8 + k) = (h (y * 8 + k) + f k + c) % 4294967296 := by rw [a2 (x * 8 + k) (by omega), updN_same]
    rw [vV, vV, vV, Nat.pow_succ, e4]
    show vV (fun i => h' (x * 8 + i)) k * 4294967296 + h' (x * 8 + k) + _ = _
    rw [e6]
    omega
theorem l_sub_ge {a b c : Nat} (h : b + c ≤ a) (ha : a < 4294967296) : (lN a - lN b - lN c) = lN (a - b - c) ∧ 0 ≤ lN a - lN b - lN c := by
  have e : lN a - lN b - lN c = lN (a - b - c) := by rw [lN_sub (by omega), lN_sub (by omega)]
  refine ⟨e, ?_⟩
  rw [e, Int64.le_iff_toInt_le, pk_lT (by omega)]
  show (0 : Int) ≤ _
  omega
theorem l_sub_lt {a b c : Nat} (h : a < b + c) (hb : b < 4294967296) (hc : c < 2) : (lN a - lN b - lN c) &&& 4294967295 = lN (a + 4294967296 - b - c) ∧ ¬ 0 ≤ lN a - lN b - lN c := by
  have e : lN a - lN b - lN c = lN (a + 18446744073709551616 - b - c) := by
    have e0 : lN a = lN (a + 18446744073709551616) := by
      rw [wb_mod a, wb_mod (a + 18446744073709551616), show (a + 18446744073709551616) % 2 ^ 64 = a % 2 ^ 64 by omega]
    rw [e0, lN_sub (by omega), lN_sub (by omega)]
  constructor
  · rw [e, l_and32 (by omega), show (a + 18446744073709551616 - b - c) % 4294967296 = a + 4294967296 - b - c by omega]
  · rw [e]
    intro h2
    rw [Int64.le_iff_toInt_le] at h2
    have c1 := BitVec.toInt_eq_toNat_cond (lN (a + 18446744073709551616 - b - c)).toBitVec
    rw [wb_tn (by omega)] at c1
    have c2 : (lN (a + 18446744073709551616 - b - c)).toInt = if 2 * (a + 18446744073709551616 - b - c) < 2 ^ 64 then ((a + 18446744073709551616 - b - c : Nat) : Int) else ((a + 18446744073709551616 - b - c : Nat) : Int) - ((2 ^ 64 : Nat) : Int) := c1
    rw [if_neg (by omega)] at c2
    have c3 : (0 : Int64).toInt = 0 := by decide
    rw [c3, c2] at h2
    omega
theorem subc_V {n : Nat} {d : Nat → Int64} {dd : Nat → Nat} (hd : lim d dd n) : ∀ (k : Nat) (g : Nat → Int64) (h : Nat → Nat) (c : Nat), k ≤ n → lim g h n → c < 2 → ∃ (h' : Nat → Nat) (co : Nat), lim (m_subL d k g (lN c)) h' n ∧ (∀ i, k ≤ i → h' i = h i) ∧ vV h' k + vV dd k + c = vV h k + co * 4294967296 ^ k := by
  intro k
  induction k with
  | zero => intro g h c _ hl _; exact ⟨h, c, hl, fun _ _ => rfl, by simp [vV]⟩
  | succ k ih =>
    intro g h c hk hl hc
    obtain ⟨e1, e2⟩ := hl k (by omega)
    obtain ⟨d1, d2⟩ := hd k (by omega)
    have e4 : ∀ co : Nat, co * (4294967296 ^ k * 4294967296) = co * 4294967296 ^ k * 4294967296 := fun _ => (Nat.mul_assoc _ _ _).symm
    have e3 : m_subL d (k + 1) g (lN c) = m_subL d k (vp_updL g k ((g k - d k - lN c) &&& 4294967295)) (if 0 ≤ g k - d k - lN c then 0 else 1) := rfl
    by_cases cc : dd k + c ≤ h k
    · obtain ⟨s1, s2⟩ := l_sub_ge cc e2
      have e5 : m_subL d (k + 1) g (lN c) = m_subL d k (vp_updL g k (lN (h k - dd k - c))) (lN 0) := by
        rw [e3, e1, d1, if_pos s2, s1, l_and32 (by omega), Nat.mod_eq_of_lt (by omega)]; rfl
      obtain ⟨h', co, a1, a2, a3⟩ := ih _ _ 0 (by omega) (lim_u (k := k) (v := h k - dd k - c) hl (by omega)) (by omega)
      rw [e5]
      refine ⟨h', co, a1, fun i hi => by rw [a2 i (by omega), updN_ne (by omega)], ?_⟩
      rw [vV, vV, vV, a2 k (Nat.le_refl k), updN_same, Nat.pow_succ, e4]
      rw [vV_upd (Nat.le_refl k)] at a3
      omega
    · obtain ⟨s1, s2⟩ := l_sub_lt (a := h k) (b := dd k) (c := c) (by omega) d2 hc
      have e5 : m_subL d (k + 1) g (lN c) = m_subL d k (vp_updL g k (lN (h k + 4294967296 - dd k - c))) (lN 1) := by
        rw [e3, e1, d1, if_neg s2, s1]; rfl
      obtain ⟨h', co, a1, a2, a3⟩ := ih _ _ 1 (by omega) (lim_u (k := k) (v := h k + 4294967296 - dd k - c) hl (by omega)) (by omega)
      rw [e5]
      refine ⟨h', co, a1, fun i hi => by rw [a2 i (by omega), updN_ne (by omega)], ?_⟩
      rw [vV, vV, vV, a2 k (Nat.le_refl k), updN_same, Nat.pow_succ, e4]
      rw [vV_upd (Nat.le_refl k)] at a3
      omega
theorem mulc_V {n : Nat} {b : Int64} {th : Nat → Nat} {t : Nat} (ht : t ≤ 19200) (hth : ∀ i, i < n → m_th b i = lN (th i) ∧ th i < 4294967296) : ∀ (k : Nat) (g : Nat → Int64) (h : Nat → Nat) (c : Nat), k ≤ n → lim g h (n + 1) → c ≤ 19200 → ∃ h' : Nat → Nat, lim (m_mulL b (lN t) k g (lN c)) h' (n + 1) ∧ (∀ i, k < i → h' i = h i) ∧ vV h' (k + 1) = vV th k * t + c := by
  intro k
  induction k with
  | zero =>
    intro g h c _ hl hc
    refine ⟨updN h 0 c, lim_u hl (by omega), fun i hi => updN_ne (by omega), ?_⟩
    simp [vV, updN_same]
  | succ k ih =>
    intro g h c hk hl hc
    obtain ⟨e1, e2⟩ := hth k (by omega)
    have hb : th k * t ≤ 4294967295 * 19200 := Nat.mul_le_mul (by omega) ht
    have e3 : m_mulL b (lN t) (k + 1) g (lN c) = m_mulL b (lN t) k (vp_updL g (k + 1) (lN ((th k * t + c) % 4294967296))) (lN ((th k * t + c) / 4294967296)) := by
      show m_mulL b (lN t) k (vp_updL g (k + 1) ((m_th b k * lN t + lN c) &&& 4294967295)) (j_ushr (m_th b k * lN t + lN c) (nI 32)) = _
      rw [e1, lN_mul, lN_add, l_and32 (by omega), l_us32 (by omega)]
    obtain ⟨h', a1, a2, a3⟩ := ih _ _ ((th k * t + c) / 4294967296) (by omega) (lim_u (k := k + 1) hl (Nat.mod_lt (th k * t + c) (by omega))) (by omega)
    rw [e3]
    refine ⟨h', a1, fun i hi => by rw [a2 i (by omega), updN_ne (by omega)], ?_⟩
    have e6 : vV h' (k + 1 + 1) = vV h' (k + 1) * 4294967296 + h' (k + 1) := rfl
    have e7 : vV th (k + 1) * t = vV th k * t * 4294967296 + th k * t := by rw [vV, Nat.add_mul, Nat.mul_assoc, Nat.mul_comm 4294967296 t, ← Nat.mul_assoc]
    rw [e6, a3, a2 (k + 1) (by omega), updN_same, e7]
    omega
