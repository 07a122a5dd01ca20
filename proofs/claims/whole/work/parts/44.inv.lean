def cmpOf (a b : Nat) : Int32 := if a < b then -1 else if b < a then nI 1 else nI 0
theorem cmpOf_le {a b : Nat} : cmpOf a b ≤ 0 ↔ a ≤ b := by
  unfold cmpOf
  by_cases h : a < b
  · rw [if_pos h]; exact ⟨fun _ => by omega, fun _ => by decide⟩
  · rw [if_neg h]
    by_cases h2 : b < a
    · rw [if_pos h2]; exact ⟨fun q => absurd q (by decide), fun q => by omega⟩
    · rw [if_neg h2]; exact ⟨fun _ => by omega, fun _ => by decide⟩
theorem cmp_C {Wk : Nat → Int64} {w val : Nat → Nat} {m n x y : Nat} (lw : lim Wk w m) (hm : n * 8 ≤ m) (hv : ∀ x, x < n → vV (fun k => w (x * 8 + k)) 8 = val x) (hx : x < n) (hy : y < n) : m_cmp Wk x y 8 0 = cmpOf (val x) (val y) := by
  rw [cmpc_V lw 8 0 (by omega) (by omega), vT_0 (hv x hx), vT_0 (hv y hy)]; rfl
theorem cmp_M {Sm val : Nat → Nat} {n x y : Nat} (h8 : by8 Sm) (hv : ∀ x, x < n → sV (shf Sm (40 * x)) 0 40 = val x) (hx : x < n) (hy : y < n) : r_cmp (shf Sm (40 * x)) (shf Sm (40 * y)) 40 0 (nI 0) = cmpOf (val x) (val y) := by
  rw [cmp_V (by8_shf h8) (by8_shf h8), hv x hx, hv y hy]; rfl
theorem tip_is {Z Sm val : Nat → Nat} {n : Nat} (hz : Z 0 = 0) (hc : ∀ x y, x < n → y < n → (r_cmp (shf Sm (40 * x)) (shf Sm (40 * y)) 40 0 (nI 0) ≤ 0 ↔ val x ≤ val y)) : ∀ (d i x : Nat), i + d = n → isBest Z val i x → 0 < i → isBest Z val n (r_tip Z Sm d i x) := by
  intro d
  induction d with
  | zero => intro i x hi h _; rw [show n = i by omega]; exact h
  | succ d ih =>
    intro i x hi h h0
    obtain ⟨a1, a2, a3⟩ := h
    rw [r_tip]
    by_cases c : Z i = 0
    · rw [if_pos c]
      have hcc := hc i x (by omega) (by omega)
      by_cases c2 : r_cmp (shf Sm (40 * i)) (shf Sm (40 * x)) 40 0 (nI 0) ≤ 0
      · rw [if_pos c2]
        have q := hcc.mp c2
        refine ih (i + 1) x (by omega) ⟨by omega, a2, fun y hy hzy => ?_⟩ (by omega)
        rcases Nat.lt_or_ge y i with g | g
        · exact a3 y g hzy
        · rw [show y = i by omega]; exact ⟨q, fun z => by omega⟩
      · rw [if_neg c2]
        have q : ¬ val i ≤ val x := fun z => c2 (hcc.mpr z)
        refine ih (i + 1) i (by omega) ⟨by omega, c, fun y hy hzy => ?_⟩ (by omega)
        rcases Nat.lt_or_ge y i with g | g
        · have := (a3 y g hzy).1; exact ⟨by omega, fun _ => by omega⟩
        · rw [show y = i by omega]; exact ⟨Nat.le_refl _, fun z => absurd z (Nat.lt_irrefl _)⟩
    · rw [if_neg c]
      refine ih (i + 1) x (by omega) ⟨by omega, a2, fun y hy hzy => ?_⟩ (by omega)
      rcases Nat.lt_or_ge y i with g | g
      · exact a3 y g hzy
      · rw [show y = i by omega] at hzy; exact absurd hzy c
theorem isBest_0 {Z val : Nat → Nat} (hz : Z 0 = 0) : isBest Z val 1 0 := ⟨by omega, hz, fun i hi _ => by rw [show i = 0 by omega]; exact ⟨Nat.le_refl _, fun h => absurd h (Nat.lt_irrefl _)⟩⟩
/-- the reference's tip is the shared one -/
theorem tip_M {rm n tp : Nat} {P Hh : Nat → Nat} {Bt : Nat → Int64} {Zb val Sm α β γ : Nat → Nat} (hI : Inv rm n tp P Hh Bt Zb val) (hM : InvM n Sm α β γ val) : r_tip Zb Sm (n - 1) 1 0 = tp := by
  obtain ⟨⟨h1, -⟩, -, -, -, -, -, hz0, -, -, -, -, hb⟩ := hI
  obtain ⟨m1, -, -, -, m5⟩ := hM
  exact isBest_u (tip_is hz0 (fun x y hx hy => by rw [cmp_M m1 m5 hx hy]; exact cmpOf_le) (n - 1) 1 0 (by omega) (isBest_0 hz0) (by omega)) hb
theorem hgt_le {P Hh : Nat → Nat} {n : Nat} (hp : ∀ x : Nat, 0 < x → x < n → P x < x) (h0 : Hh 0 = 0) (hs : ∀ x : Nat, 0 < x → x < n → Hh x = Hh (P x) + 1) : ∀ (k x : Nat), x ≤ k → x < n → Hh x ≤ x := by
  intro k
  induction k with
  | zero => intro x hx _; rw [show x = 0 by omega, h0]; omega
  | succ k ih =>
    intro x hx hn
    rcases Nat.eq_zero_or_pos x with g | g
    · subst g; omega
    · have e := hs x g hn; have e2 := hp x g hn
      have := ih (P x) (by omega) (by omega)
      omega
theorem inv_add {rm n tp : Nat} {P Hh : Nat → Nat} {Bt : Nat → Int64} {Zb val : Nat → Nat} (hI : Inv rm n tp P Hh Bt Zb val) {j v : Nat} (hj : j < n) (hn : n < rm) (hz : Zb j = 0) (hg : good v (Hh j + 1)) :
    Inv rm (n + 1) (if updN val n (val j + wrk v) n ≤ updN val n (val j + wrk v) tp then tp else n) (updN P n j) (updN Hh n (Hh j + 1)) (vp_updL Bt n (lN v)) Zb (updN val n (val j + wrk v)) := by
  obtain ⟨⟨h1, h2, h3, h4⟩, hp, h0, hs, hb, hz2, hz0, hzn, hcl, hB, hV, hT⟩ := hI
  have hle := hgt_le hp h0 hs j j (Nat.le_refl _) hj
  have hw := wrk_le hg (by omega)
  refine ⟨⟨by omega, by omega, h3, h4⟩, ?_, ?_, ?_, ?_, hz2, hz0, fun x hx => hzn x (by omega), ?_, ?_, ?_, ?_⟩
  · intro x hx hxn
    by_cases e : x = n
    · subst e; rw [updN_same]; exact hj
    · rw [updN_ne e]; exact hp x hx (by omega)
  · rw [updN_ne (by omega)]; exact h0
  · intro x hx hxn
    by_cases e : x = n
    · subst e; rw [updN_same, updN_same, updN_ne (by omega)]
    · have := hp x hx (by omega)
      rw [updN_ne e, updN_ne e, updN_ne (by omega)]; exact hs x hx (by omega)
  · intro x hx
    by_cases e : x = n
    · subst e; rw [updN_same]; omega
    · rw [updN_ne e]; exact hb x (by omega)
  · intro x hx hxn
    by_cases e : x = n
    · subst e; rw [updN_same]; intro q; exact absurd hz q
    · rw [updN_ne e]; exact hcl x hx (by omega)
  · intro x hx
    by_cases e : x = n
    · subst e; rw [updN_same, pk_uLs]; exact ⟨v, rfl, hg⟩
    · rw [updN_ne e, pk_uLn e]; exact hB x (by omega)
  · intro x hx
    by_cases e : x = n
    · subst e
      rw [updN_same, updN_same]
      have := hV j hj
      have e2 : (Hh j + 1 + 1) * 2 ^ 152 = (Hh j + 1) * 2 ^ 152 + 2 ^ 152 := by rw [Nat.add_mul (Hh j + 1), Nat.one_mul]
      rw [e2]
      exact Nat.add_le_add this hw
    · rw [updN_ne e, updN_ne e]; exact hV x (by omega)
  · obtain ⟨a1, a2, a3⟩ := hT
    have et : updN val n (val j + wrk v) tp = val tp := updN_ne (by omega)
    rw [updN_same, et]
    by_cases c : val j + wrk v ≤ val tp
    · rw [if_pos c]
      refine ⟨by omega, a2, fun i hi hzi => ?_⟩
      rw [et]
      by_cases e : i = n
      · subst e; rw [updN_same]; exact ⟨c, fun z => by omega⟩
      · rw [updN_ne e]; exact a3 i (by omega) hzi
    · rw [if_neg c]
      refine ⟨by omega, hzn n (Nat.le_refl _), fun i hi hzi => ?_⟩
      rw [updN_same]
      by_cases e : i = n
      · subst e; rw [updN_same]; exact ⟨Nat.le_refl _, fun z => absurd z (Nat.lt_irrefl _)⟩
      · rw [updN_ne e]
        have := (a3 i (by omega) hzi).1
        exact ⟨by omega, fun _ => by omega⟩
theorem val_b {rm n tp : Nat} {P Hh : Nat → Nat} {Bt : Nat → Int64} {Zb val : Nat → Nat} (hI : Inv rm n tp P Hh Bt Zb val) {j v : Nat} (hj : j < n) (hg : good v (Hh j + 1)) : val j + wrk v < 2 ^ 256 := by
  obtain ⟨-, -, -, -, hb, -, -, -, -, -, hV, -⟩ := hI
  have h1 := hV j hj; have h2 := hb j hj
  have hw := wrk_le hg (by omega)
  have h3 : (Hh j + 1) * 2 ^ 152 ≤ 300 * 2 ^ 152 := Nat.mul_le_mul_right _ (by omega)
  have h4 : 300 * 2 ^ 152 + 2 ^ 152 < 2 ^ 256 := by decide +kernel
  exact Nat.lt_of_le_of_lt (Nat.add_le_add (Nat.le_trans h1 h3) hw) h4
theorem inv_spoil {rm n tp : Nat} {P Hh : Nat → Nat} {Bt : Nat → Int64} {Zb val : Nat → Nat} (hI : Inv rm n tp P Hh Bt Zb val) {j : Nat} (hj : j < n) (hj0 : 0 < j) {tp' : Nat} (hb : isBest (Gz P Hh Zb j n) val n tp') : Inv rm n tp' P Hh Bt (Gz P Hh Zb j n) val := by
  obtain ⟨⟨h1, h2, h3, h4⟩, hp, h0, hs, hbd, hz2, hz0, hzn, hcl, hB, hV, hT⟩ := hI
  have nd0 : ¬ r_bel P Hh 0 (Hh j) = nI j := fun q => by have := dsc_le hp (i := 0) (by omega) (by omega) hj q; omega
  refine ⟨⟨h1, h2, h3, h4⟩, hp, h0, hs, hbd, ?_, ?_, ?_, ?_, hB, hV, hb⟩
  · intro x; unfold Gz
    by_cases c : x < n ∧ Zb x = 0 ∧ r_bel P Hh x (Hh j) = nI j
    · rw [if_pos c]; omega
    · rw [if_neg c]; exact hz2 x
  · unfold Gz; rw [if_neg (fun q => nd0 q.2.2)]; exact hz0
  · intro x hx; unfold Gz; rw [if_neg (by omega)]; exact hzn x hx
  · intro x hx hxn hq
    have hpx := hp x hx hxn
    unfold Gz at hq ⊢
    by_cases c : x < n ∧ Zb x = 0 ∧ r_bel P Hh x (Hh j) = nI j
    · rw [if_pos c]; omega
    · rw [if_neg c]
      by_cases c2 : P x < n ∧ Zb (P x) = 0 ∧ r_bel P Hh (P x) (Hh j) = nI j
      · intro hzx
        apply c
        refine ⟨hxn, hzx, ?_⟩
        by_cases e : x = j
        · subst e; exact dsc_self
        · exact (dsc_rec hp h0 hs hxn (by omega) hj hx e).mpr c2.2.2
      · rw [if_neg c2] at hq
        exact hcl x hx hxn hq
theorem ch_le {P : Nat → Nat} {j : Nat} : ∀ (d i c : Nat), r_ch P j d i c ≤ c + d := by
  intro d
  induction d with
  | zero => intro i c; exact Nat.le_refl _
  | succ d ih =>
    intro i c
    rw [r_ch]
    have := ih (i + 1) (if pF P i = nI j then c + 1 else c)
    by_cases h : pF P i = nI j
    · rw [if_pos h] at this ⊢; omega
    · rw [if_neg h] at this ⊢; omega
