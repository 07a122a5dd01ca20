/-! NUMBERS: bytes, the lowest first (sV), limbs of 32 bits, the highest first (vV) -/
def sV (α : Nat → Nat) : Nat → Nat → Nat
  | _, 0 => 0
  | i, d + 1 => α i + 256 * sV α (i + 1) d
theorem sV_congr {α β : Nat → Nat} : ∀ {d i : Nat}, (∀ j, i ≤ j → j < i + d → α j = β j) → sV α i d = sV β i d := by
  intro d
  induction d with
  | zero => intro i _; rfl
  | succ d ih =>
    intro i h
    rw [sV, sV, h i (by omega) (by omega), ih (fun j h1 h2 => h j (by omega) (by omega))]
theorem sV_top {α : Nat → Nat} : ∀ {d i : Nat}, sV α i (d + 1) = sV α i d + α (i + d) * 256 ^ d := by
  intro d
  induction d with
  | zero => intro i; simp [sV]
  | succ d ih =>
    intro i
    have e1 : sV α i (d + 1 + 1) = α i + 256 * sV α (i + 1) (d + 1) := rfl
    have e2 : sV α i (d + 1) = α i + 256 * sV α (i + 1) d := rfl
    have e3 : α (i + (d + 1)) * (256 ^ d * 256) = 256 * (α (i + (d + 1)) * 256 ^ d) := by rw [← Nat.mul_assoc, Nat.mul_comm]
    rw [e1, e2, ih (i := i + 1), Nat.pow_succ, show i + 1 + d = i + (d + 1) by omega, e3]
    omega
theorem sV_lt {α : Nat → Nat} (h : by8 α) : ∀ {d i : Nat}, sV α i d < 256 ^ d := by
  intro d
  induction d with
  | zero => intro i; simp [sV]
  | succ d ih =>
    intro i
    have h1 := h i; have h2 := ih (i := i + 1)
    rw [sV, Nat.pow_succ]
    omega
theorem updN_same (f : Nat → Nat) (i v : Nat) : updN f i v i = v := by unfold updN; rw [if_pos rfl]
theorem updN_ne {f : Nat → Nat} {i v j : Nat} (h : ¬ j = i) : updN f i v j = f j := by unfold updN; rw [if_neg h]
theorem sV_upd_lo {α : Nat → Nat} {i d k v : Nat} (h : k < i) : sV (updN α k v) i d = sV α i d := sV_congr (fun j h1 _ => updN_ne (by omega))
theorem sV_upd_hi {α : Nat → Nat} {i d k v : Nat} (h : i + d ≤ k) : sV (updN α k v) i d = sV α i d := sV_congr (fun j _ h2 => updN_ne (by omega))
/-- digits -/
theorem sV_dig {α : Nat → Nat} {N : Nat} : ∀ {d i : Nat}, (∀ j, i ≤ j → j < i + d → α j = N / 256 ^ j % 256) → sV α i d = N / 256 ^ i % 256 ^ d := by
  intro d
  induction d with
  | zero => intro i _; simp [sV, Nat.mod_one]
  | succ d ih =>
    intro i h
    rw [sV, h i (by omega) (by omega), ih (fun j h1 h2 => h j (by omega) (by omega)), Nat.pow_succ 256 i, ← Nat.div_div_eq_div_mul, Nat.pow_succ, Nat.mul_comm (256 ^ d) 256, Nat.mod_mul]
theorem sV_get {α : Nat → Nat} (h : by8 α) : ∀ {d i k : Nat}, k < d → α (i + k) = sV α i d / 256 ^ k % 256 := by
  intro d
  induction d with
  | zero => intro i k hk; omega
  | succ d ih =>
    intro i k hk
    have h1 := h i
    rw [sV]
    cases k with
    | zero => rw [Nat.pow_zero, Nat.div_one, Nat.add_zero]; omega
    | succ k =>
      rw [Nat.pow_succ, Nat.mul_comm (256 ^ k) 256, ← Nat.div_div_eq_div_mul, show (α i + 256 * sV α (i + 1) d) / 256 = sV α (i + 1) d by omega, show i + (k + 1) = (i + 1) + k by omega]
      exact ih (by omega)
/-- the doubling -/
theorem dbl_V : ∀ (d i cy : Nat) (γ : Nat → Nat), ∃ co : Nat, (∀ j, j < i → r_dblL d i cy γ j = γ j) ∧ sV (r_dblL d i cy γ) i d + co * 256 ^ d = 2 * sV γ i d + cy := by
  intro d
  induction d with
  | zero => intro i cy γ; exact ⟨cy, fun _ _ => rfl, by simp [sV, r_dblL]⟩
  | succ d ih =>
    intro i cy γ
    obtain ⟨co, h1, h2⟩ := ih (i + 1) ((2 * γ i + cy) / 256) (updN γ i ((2 * γ i + cy) % 256))
    refine ⟨co, fun j hj => ?_, ?_⟩
    · rw [r_dblL, h1 j (by omega), updN_ne (by omega)]
    · have e1 : r_dblL (d + 1) i cy γ = r_dblL d (i + 1) ((2 * γ i + cy) / 256) (updN γ i ((2 * γ i + cy) % 256)) := rfl
      rw [e1, sV, sV, h1 i (by omega), updN_same, Nat.pow_succ, ← Nat.mul_assoc]
      rw [sV_upd_lo (by omega)] at h2
      omega
theorem inc_V (α : Nat → Nat) : ∀ (d i cy : Nat) (β : Nat → Nat), ∃ co : Nat, (∀ j, j < i → r_incL α d i cy β j = β j) ∧ sV (r_incL α d i cy β) i d + co * 256 ^ d = sV α i d + cy := by
  intro d
  induction d with
  | zero => intro i cy γ; exact ⟨cy, fun _ _ => rfl, by simp [sV, r_incL]⟩
  | succ d ih =>
    intro i cy β
    obtain ⟨co, h1, h2⟩ := ih (i + 1) ((α i + cy) / 256) (updN β i ((α i + cy) % 256))
    refine ⟨co, fun j hj => ?_, ?_⟩
    · rw [r_incL, h1 j (by omega), updN_ne (by omega)]
    · have e1 : r_incL α (d + 1) i cy β = r_incL α d (i + 1) ((α i + cy) / 256) (updN β i ((α i + cy) % 256)) := rfl
      rw [e1, sV, sV, h1 i (by omega), updN_same, Nat.pow_succ, ← Nat.mul_assoc]
      omega
theorem sub_V (β : Nat → Nat) : ∀ (d i bo : Nat) (γ : Nat → Nat), by8 γ → by8 β → bo ≤ 1 → ∃ co : Nat, (∀ j, j < i → r_subL β d i bo γ j = γ j) ∧ sV (r_subL β d i bo γ) i d + sV β i d + bo = sV γ i d + co * 256 ^ d := by
  intro d
  induction d with
  | zero => intro i bo γ _ _ _; exact ⟨bo, fun _ _ => rfl, by simp [sV, r_subL]⟩
  | succ d ih =>
    intro i bo γ hg hb hbo
    have hgi := hg i; have hbi := hb i
    by_cases c : β i + bo ≤ γ i
    · obtain ⟨co, h1, h2⟩ := ih (i + 1) 0 (updN γ i (γ i - β i - bo)) (by8_u hg (by omega)) hb (by omega)
      have e1 : r_subL β (d + 1) i bo γ = r_subL β d (i + 1) 0 (updN γ i (γ i - β i - bo)) := by rw [r_subL, if_pos c]
      rw [e1]
      refine ⟨co, fun j hj => ?_, ?_⟩
      · rw [h1 j (by omega), updN_ne (by omega)]
      · rw [sV, sV, sV, h1 i (by omega), updN_same, Nat.pow_succ, ← Nat.mul_assoc]
        rw [sV_upd_lo (by omega)] at h2
        omega
    · obtain ⟨co, h1, h2⟩ := ih (i + 1) 1 (updN γ i (γ i + 256 - β i - bo)) (by8_u hg (by omega)) hb (by omega)
      have e1 : r_subL β (d + 1) i bo γ = r_subL β d (i + 1) 1 (updN γ i (γ i + 256 - β i - bo)) := by rw [r_subL, if_neg c]
      rw [e1]
      refine ⟨co, fun j hj => ?_, ?_⟩
      · rw [h1 j (by omega), updN_ne (by omega)]
      · rw [sV, sV, sV, h1 i (by omega), updN_same, Nat.pow_succ, ← Nat.mul_assoc]
        rw [sV_upd_lo (by omega)] at h2
        omega
theorem mul_V (t : Nat) : ∀ (d i cy : Nat) (α : Nat → Nat), ∃ co : Nat, (∀ j, j < i → r_mulL t d i cy α j = α j) ∧ sV (r_mulL t d i cy α) i d + co * 256 ^ d = sV α i d * t + cy := by
  intro d
  induction d with
  | zero => intro i cy γ; exact ⟨cy, fun _ _ => rfl, by simp [sV, r_mulL]⟩
  | succ d ih =>
    intro i cy α
    obtain ⟨co, h1, h2⟩ := ih (i + 1) ((α i * t + cy) / 256) (updN α i ((α i * t + cy) % 256))
    refine ⟨co, fun j hj => ?_, ?_⟩
    · rw [r_mulL, h1 j (by omega), updN_ne (by omega)]
    · have e1 : r_mulL t (d + 1) i cy α = r_mulL t d (i + 1) ((α i * t + cy) / 256) (updN α i ((α i * t + cy) % 256)) := rfl
      have e3 : co * (256 ^ d * 256) = co * 256 ^ d * 256 := (Nat.mul_assoc _ _ _).symm
      have e4 : 256 * sV α (i + 1) d * t = 256 * (sV α (i + 1) d * t) := Nat.mul_assoc _ _ _
      rw [e1, sV, sV, h1 i (by omega), updN_same, Nat.pow_succ, e3, Nat.add_mul, e4]
      rw [sV_upd_lo (by omega)] at h2
      omega
theorem div_V {q : Nat} (hq : 0 < q) : ∀ (k r : Nat) (α : Nat → Nat), r < q → ∃ r' : Nat, r' < q ∧ (∀ j, k ≤ j → r_divL q k r α j = α j) ∧ sV (r_divL q k r α) 0 k * q + r' = r * 256 ^ k + sV α 0 k := by
  intro k
  induction k with
  | zero => intro r α hr; exact ⟨r, hr, fun _ _ => rfl, by simp [sV, r_divL]⟩
  | succ k ih =>
    intro r α hr
    obtain ⟨r', hr', h1, h2⟩ := ih ((r * 256 + α k) % q) (updN α k ((r * 256 + α k) / q)) (Nat.mod_lt _ hq)
    have e1 : r_divL q (k + 1) r α = r_divL q k ((r * 256 + α k) % q) (updN α k ((r * 256 + α k) / q)) := rfl
    refine ⟨r', hr', fun j hj => ?_, ?_⟩
    · rw [e1, h1 j (by omega), updN_ne (by omega)]
    · rw [e1, sV_top, sV_top, Nat.zero_add, h1 k (Nat.le_refl k), updN_same, Nat.pow_succ]
      rw [sV_upd_hi (by omega)] at h2
      have h3 := Nat.div_add_mod (r * 256 + α k) q
      generalize (r * 256 + α k) / q = a at *
      generalize (r * 256 + α k) % q = b at *
      have h4 : (q * a + b) * 256 ^ k = (r * 256 + α k) * 256 ^ k := by rw [h3]
      rw [Nat.add_mul] at h4
      rw [Nat.add_mul (r * 256)] at h4
      rw [Nat.add_mul]
      have e5 : a * 256 ^ k * q = q * a * 256 ^ k := by rw [Nat.mul_comm (a * 256 ^ k) q, Nat.mul_assoc]
      have e6 : r * (256 ^ k * 256) = r * 256 * 256 ^ k := by rw [Nat.mul_comm (256 ^ k) 256, Nat.mul_assoc]
      rw [e5, e6]
      omega
/-- the comparison -/
theorem cmp_V {α β : Nat → Nat} (ha : by8 α) (hb : by8 β) : ∀ (d i : Nat) (od : Int32), r_cmp α β d i od = if sV α i d < sV β i d then -1 else if sV β i d < sV α i d then nI 1 else od := by
  intro d
  induction d with
  | zero => intro i od; simp [sV, r_cmp]
  | succ d ih =>
    intro i od
    have h1 := ha i; have h2 := hb i
    rw [r_cmp, ih, sV, sV]
    rcases Nat.lt_trichotomy (sV α (i + 1) d) (sV β (i + 1) d) with h | h | h
    · rw [if_pos h, if_pos (by omega)]
    · rw [if_neg (by omega), if_neg (by omega)]
      rcases Nat.lt_trichotomy (α i) (β i) with g | g | g
      · rw [if_pos g, if_pos (by omega)]
      · rw [if_neg (by omega), if_neg (by omega), if_neg (by omega), if_neg (by omega)]
      · rw [if_neg (by omega), if_pos g, if_neg (by omega), if_pos (by omega)]
    · rw [if_neg (by omega), if_pos h, if_neg (by omega), if_pos (by omega)]
