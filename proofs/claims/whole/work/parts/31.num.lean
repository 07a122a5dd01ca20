theorem sV_add {α : Nat → Nat} {w j : Nat} : ∀ {d i : Nat}, i ≤ j → j < i + d → sV (updN α j (α j + w)) i d = sV α i d + w * 256 ^ (j - i) := by
  intro d
  induction d with
  | zero => intro i h1 h2; omega
  | succ d ih =>
    intro i h1 h2
    rw [sV, sV]
    by_cases e : j = i
    · subst e
      rw [updN_same, sV_upd_lo (by omega), Nat.sub_self, Nat.pow_zero]; omega
    · have e2 : j - i = (j - (i + 1)) + 1 := by omega
      have e3 : w * (256 ^ (j - (i + 1)) * 256) = 256 * (w * 256 ^ (j - (i + 1))) := by rw [← Nat.mul_assoc, Nat.mul_comm]
      rw [updN_ne (by omega), ih (by omega) (by omega), e2, Nat.pow_succ, e3]
      omega
theorem ar_co {V co A B : Nat} (h : V + co * B = A) (hA : A < B) : V = A := by
  rcases Nat.eq_zero_or_pos co with h0 | h0
  · rw [h0] at h; omega
  · have : B ≤ co * B := Nat.le_mul_of_pos_left _ h0
    omega
theorem ar_sb {V co b g B : Nat} (h : V + b + 0 = g + co * B) (hV : V < B) (hb : b ≤ g) : V = g - b := by
  rcases Nat.eq_zero_or_pos co with h0 | h0
  · rw [h0] at h; omega
  · have : B ≤ co * B := Nat.le_mul_of_pos_left _ h0
    omega
theorem ar_40 {a : Nat} (h : a + 1 < 256 ^ 39) : 2 * a + 1 < 256 ^ 40 := by
  have h39 : (256 : Nat) ^ 40 = 256 * 256 ^ 39 := Nat.pow_succ'
  omega
theorem r_inc_V {α β : Nat → Nat} {d : Nat} (h : sV α 0 d + 1 < 256 ^ d) : sV (r_incL α d 0 1 β) 0 d = sV α 0 d + 1 := by
  obtain ⟨co, -, h2⟩ := inc_V α d 0 1 β
  exact ar_co h2 h
theorem r_dbl_V {γ : Nat → Nat} {c d : Nat} (h : 2 * sV γ 0 d + c < 256 ^ d) : sV (r_dblL d 0 c γ) 0 d = 2 * sV γ 0 d + c := by
  obtain ⟨co, -, h2⟩ := dbl_V d 0 c γ
  exact ar_co h2 h
theorem r_sub_V {β γ : Nat → Nat} {d : Nat} (hg : by8 γ) (hb : by8 β) (h : sV β 0 d ≤ sV γ 0 d) : sV (r_subL β d 0 0 γ) 0 d = sV γ 0 d - sV β 0 d := by
  obtain ⟨co, -, h2⟩ := sub_V β d 0 0 γ hg hb (Nat.zero_le _)
  exact ar_sb h2 (sV_lt (r_subL_by hg)) h
theorem cmp_lt0 {α β : Nat → Nat} {d : Nat} (ha : by8 α) (hb : by8 β) : r_cmp α β d 0 (nI 0) < 0 ↔ sV α 0 d < sV β 0 d := by
  rw [cmp_V ha hb]
  by_cases h : sV α 0 d < sV β 0 d
  · rw [if_pos h]; exact ⟨fun _ => h, fun _ => by decide⟩
  · rw [if_neg h]
    by_cases h2 : sV β 0 d < sV α 0 d
    · rw [if_pos h2]; exact ⟨fun q => absurd q (by decide), fun q => absurd q h⟩
    · rw [if_neg h2]; exact ⟨fun q => absurd q (by decide), fun q => absurd q h⟩
theorem cmp_le0 {α β : Nat → Nat} {d : Nat} (ha : by8 α) (hb : by8 β) : r_cmp α β d 0 (nI 0) ≤ 0 ↔ sV α 0 d ≤ sV β 0 d := by
  rw [cmp_V ha hb]
  by_cases h : sV α 0 d < sV β 0 d
  · rw [if_pos h]; exact ⟨fun _ => by omega, fun _ => by decide⟩
  · rw [if_neg h]
    by_cases h2 : sV β 0 d < sV α 0 d
    · rw [if_pos h2]; exact ⟨fun q => absurd q (by decide), fun q => by omega⟩
    · rw [if_neg h2]; exact ⟨fun _ => by omega, fun _ => by decide⟩
theorem pk_2 (k : Nat) : 2 ^ (k % 8) * 256 ^ (k / 8) = 2 ^ k := by
  have e : (256 : Nat) = 2 ^ 8 := rfl
  rw [e, ← Nat.pow_mul, ← Nat.pow_add]
  congr 1; omega
theorem pre_2 {k : Nat} (h : k ≤ 256) : 2 ^ 256 / 2 ^ k = 2 * (2 ^ 256 / 2 ^ (k + 1)) + (if k = 256 then 1 else 0) := by
  by_cases e : k = 256
  · subst e; rw [if_pos rfl, Nat.div_self (Nat.pow_pos (by omega)), Nat.div_eq_of_lt (Nat.pow_lt_pow_right (by omega) (by omega))]
  · rw [if_neg e, Nat.pow_div (by omega) (by omega), Nat.pow_div (by omega) (by omega), show 256 - k = (256 - (k + 1)) + 1 by omega, Nat.pow_succ]
    omega
theorem ar_q1 {Pk Pk1 q D R c : Nat} (hp : Pk = 2 * Pk1 + c) (h1 : Pk1 = q * D + R) : Pk = 2 * q * D + (2 * R + c) := by
  rw [hp, h1, Nat.mul_add, ← Nat.mul_assoc]; omega
theorem ar_q2 {Pk Pk1 q D R c : Nat} (hp : Pk = 2 * Pk1 + c) (h1 : Pk1 = q * D + R) (hle : D ≤ 2 * R + c) : Pk = (2 * q + 1) * D + (2 * R + c - D) := by
  rw [hp, h1, Nat.mul_add, ← Nat.mul_assoc, Nat.add_mul, Nat.one_mul]; omega
theorem ar_q3 {q k : Nat} : q * 2 ^ (k + 1) = 2 * q * 2 ^ k := by rw [Nat.pow_succ, Nat.mul_comm (2 ^ k) 2, ← Nat.mul_assoc, Nat.mul_comm q 2]
theorem ar_q4 {q k : Nat} : q * 2 ^ (k + 1) + 2 ^ k = (2 * q + 1) * 2 ^ k := by rw [ar_q3, Nat.add_mul, Nat.one_mul]
theorem ar_q5 {N q D R : Nat} (h : N = q * D + R) (hR : R < D) : q = N / D := by
  have : 0 < D := by omega
  rw [h, Nat.mul_comm, Nat.mul_add_div this, Nat.div_eq_of_lt hR, Nat.add_zero]
/-- E: the number of rows that are looked at -/
theorem quo_V {β : Nat → Nat} (hb : by8 β) {D : Nat} (hDe : sV β 0 40 = D) (hD : D < 256 ^ 39) : ∀ (K : Nat) (α γ : Nat → Nat) (q R : Nat), K ≤ 257 → by8 γ → sV γ 0 40 = R → 2 ^ 256 / 2 ^ K = q * D + R → R < D → sV α 0 40 = q * 2 ^ K → sV (r_qL β K α γ).1 0 40 = 2 ^ 256 / D := by
  intro K
  induction K with
  | zero =>
    intro α γ q R _ hg hR h1 h2 h3
    show sV α 0 40 = _
    rw [h3, Nat.pow_zero, Nat.mul_one]
    rw [Nat.pow_zero, Nat.div_one] at h1
    exact ar_q5 h1 h2
  | succ k ih =>
    intro α γ q R hK hg hR h1 h2 h3
    have hp := pre_2 (k := k) (by omega)
    obtain ⟨c, hce⟩ : ∃ c : Nat, c = (if k = 256 then 1 else 0) := ⟨_, rfl⟩
    have hc : c ≤ 1 := by rw [hce]; by_cases e : k = 256; (rw [if_pos e]; omega); (rw [if_neg e]; omega)
    rw [r_qL]
    rw [← hce] at hp ⊢
    have hb2 : 2 * sV γ 0 40 + c < 256 ^ 40 := by
      rw [hR]
      have := ar_40 (a := R) (by omega)
      omega
    have hdv := r_dbl_V hb2
    rw [hR] at hdv
    have hg1 : by8 (r_dblL 40 0 c γ) := r_dblL_by hg
    by_cases cc : r_cmp (r_dblL 40 0 c γ) β 40 0 (nI 0) < 0
    · rw [if_pos cc]
      have c' := (cmp_lt0 hg1 hb).mp cc
      rw [hDe, hdv] at c'
      exact ih α _ (2 * q) (2 * R + c) (by omega) hg1 hdv (ar_q1 hp h1) c' (by rw [h3, ar_q3])
    · rw [if_neg cc]
      have c' := Nat.not_lt.mp (fun q => cc ((cmp_lt0 hg1 hb).mpr q))
      have hsv := r_sub_V hg1 hb c'
      rw [hDe, hdv] at c' hsv
      exact ih _ _ (2 * q + 1) (2 * R + c - D) (by omega) (r_subL_by hg1) hsv (ar_q2 hp h1 c') (by omega) (by rw [sV_add (Nat.zero_le _) (by omega), h3, Nat.sub_zero, pk_2, ar_q4])
theorem sV_zero {α : Nat → Nat} {k : Nat} : ∀ {d i : Nat}, i + d ≤ k → sV (zN α k) i d = 0 := by
  intro d
  induction d with
  | zero => intro i _; rfl
  | succ d ih =>
    intro i h
    rw [sV, ih (by omega)]
    unfold zN; rw [if_pos (by omega)]
/-- the reference's work of a target -/
theorem r_quo_V {α β γ : Nat → Nat} (hb : by8 β) (hg : by8 γ) {N : Nat} (hN : sV α 0 40 = N) (hT : N + 1 < 256 ^ 39) : sV (r_quo α β γ).1 0 40 = 2 ^ 256 / (N + 1) := by
  have h1 : sV (r_incL α 40 0 1 β) 0 40 = N + 1 := by
    rw [r_inc_V (by rw [hN]; have := ar_40 (a := N) (by omega); omega), hN]
  refine quo_V (β := r_incL α 40 0 1 β) (r_incL_by hb) h1 hT 257 (zN α 40) (zN γ 40) 0 0 (Nat.le_refl _) (by8_z hg) (sV_zero (Nat.le_refl _)) ?_ (Nat.succ_pos _) ?_
  · rw [Nat.zero_mul, Nat.div_eq_of_lt (Nat.pow_lt_pow_right (by omega) (by omega))]
  · rw [Nat.zero_mul]; exact sV_zero (Nat.le_refl _)
theorem sum_V {A : Nat → Nat} {x y : Nat} (hxy : y < x) : ∀ (d i cy : Nat) (S : Nat → Nat), i + d = 40 → ∃ co : Nat, (∀ j, (j < 40 * x + i ∨ 40 * x + 40 ≤ j) → r_sumL A x y d i cy S j = S j) ∧ sV (r_sumL A x y d i cy S) (40 * x + i) d + co * 256 ^ d = sV A i d + sV S (40 * y + i) d + cy := by
  intro d
  induction d with
  | zero => intro i cy S _; exact ⟨cy, fun _ _ => rfl, by simp [sV, r_sumL]⟩
  | succ d ih =>
    intro i cy S hi
    obtain ⟨co, h1, h2⟩ := ih (i + 1) ((A i + S (40 * y + i) + cy) / 256) (updN S (40 * x + i) ((A i + S (40 * y + i) + cy) % 256)) (by omega)
    have e1 : r_sumL A x y (d + 1) i cy S = r_sumL A x y d (i + 1) ((A i + S (40 * y + i) + cy) / 256) (updN S (40 * x + i) ((A i + S (40 * y + i) + cy) % 256)) := rfl
    have e3 : co * (256 ^ d * 256) = co * 256 ^ d * 256 := (Nat.mul_assoc _ _ _).symm
    refine ⟨co, fun j hj => ?_, ?_⟩
    · rw [e1, h1 j (by omega), updN_ne (by omega)]
    · rw [e1, sV, sV, sV, h1 (40 * x + i) (by omega), updN_same, Nat.pow_succ, e3]
      have e4 : sV (updN S (40 * x + i) ((A i + S (40 * y + i) + cy) % 256)) (40 * y + (i + 1)) d = sV S (40 * y + i + 1) d := sV_upd_hi (by omega)
      rw [e4] at h2
      have e5 : 40 * x + i + 1 = 40 * x + (i + 1) := by omega
      rw [e5]
      omega
theorem cpy_V {A : Nat → Nat} : ∀ (d i cy : Nat) (S : Nat → Nat), i + d = 40 → ∃ co : Nat, (∀ j, (j < i ∨ 40 ≤ j) → r_cpyL A d i cy S j = S j) ∧ sV (r_cpyL A d i cy S) i d + co * 256 ^ d = sV A i d + cy := by
  intro d
  induction d with
  | zero => intro i cy S _; exact ⟨cy, fun _ _ => rfl, by simp [sV, r_cpyL]⟩
  | succ d ih =>
    intro i cy S hi
    obtain ⟨co, h1, h2⟩ := ih (i + 1) ((A i + 0 + cy) / 256) (updN S (40 * 0 + i) ((A i + 0 + cy) % 256)) (by omega)
    have e1 : r_cpyL A (d + 1) i cy S = r_cpyL A d (i + 1) ((A i + 0 + cy) / 256) (updN S (40 * 0 + i) ((A i + 0 + cy) % 256)) := rfl
    have e3 : co * (256 ^ d * 256) = co * 256 ^ d * 256 := (Nat.mul_assoc _ _ _).symm
    have e0 : 40 * 0 + i = i := by omega
    refine ⟨co, fun j hj => ?_, ?_⟩
    · rw [e1, h1 j (by omega), updN_ne (by omega)]
    · rw [e0] at h2
      rw [e1, sV, sV, h1 i (by omega), e0, updN_same, Nat.pow_succ, e3]
      omega
