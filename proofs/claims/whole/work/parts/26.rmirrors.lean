def r_sumL (A : Nat → Nat) (x y : Nat) : Nat → Nat → Nat → (Nat → Nat) → (Nat → Nat)
  | 0, _, _, S => S
  | d + 1, i, cy, S => r_sumL A x y d (i + 1) ((A i + S (40 * y + i) + cy) / 256) (updN S (40 * x + i) ((A i + S (40 * y + i) + cy) % 256))
def r_cpyL (A : Nat → Nat) : Nat → Nat → Nat → (Nat → Nat) → (Nat → Nat)
  | 0, _, _, S => S
  | d + 1, i, cy, S => r_cpyL A d (i + 1) ((A i + 0 + cy) / 256) (updN S (40 * 0 + i) ((A i + 0 + cy) % 256))
theorem r_sumL_by {A : Nat → Nat} {x y : Nat} : ∀ {d i cy : Nat} {S : Nat → Nat}, by8 S → by8 (r_sumL A x y d i cy S) := by
  intro d
  induction d with
  | zero => intro i cy S h; exact h
  | succ d ih => intro i cy S h; exact ih (by8_u h (Nat.mod_lt _ (by omega)))
theorem r_cpyL_by {A : Nat → Nat} : ∀ {d i cy : Nat} {S : Nat → Nat}, by8 S → by8 (r_cpyL A d i cy S) := by
  intro d
  induction d with
  | zero => intro i cy S h; exact h
  | succ d ih => intro i cy S h; exact ih (by8_u h (Nat.mod_lt _ (by omega)))
theorem r_quo_bd {α β γ : Nat → Nat} (ha : by8 α) (i : Nat) : (r_quo α β γ).1 i ≤ 40000 := by
  have h := r_qL_bd (β := r_inc α β) (k := 257) (α := zN α 40) (γ := zN γ 40) i
  have h2 := by8_z (k := 40) ha i
  unfold r_quo; omega
def r_gone (P Hh : Nat → Nat) (j : Nat) : Nat → Nat → Nat → (Nat → Nat) → (Nat → Nat) × Nat
  | 0, _, s, z => (z, s)
  | d + 1, i, s, z => if z i = 0 then (if r_bel P Hh i (Hh j) = nI j then r_gone P Hh j d (i + 1) (s + 1) (updN z i 1) else r_gone P Hh j d (i + 1) s z) else r_gone P Hh j d (i + 1) s z
