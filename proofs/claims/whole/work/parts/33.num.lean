def vT (h : Nat → Nat) : Nat → Nat → Nat
  | _, 0 => 0
  | i, d + 1 => h i * 4294967296 ^ d + vT h (i + 1) d
theorem vV_T {h : Nat → Nat} : ∀ {d i : Nat}, vV h (i + d) = vV h i * 4294967296 ^ d + vT h i d := by
  intro d
  induction d with
  | zero => intro i; simp [vT]
  | succ d ih =>
    intro i
    have e : i + (d + 1) = (i + 1) + d := by omega
    have e2 : vV h i * (4294967296 ^ d * 4294967296) = vV h i * 4294967296 * 4294967296 ^ d := by rw [Nat.mul_comm (4294967296 ^ d), ← Nat.mul_assoc]
    rw [e, ih, vV, vT, Nat.add_mul, Nat.pow_succ, e2]
    omega
theorem vT_congr {h h' : Nat → Nat} : ∀ {d i : Nat}, (∀ j, i ≤ j → j < i + d → h j = h' j) → vT h i d = vT h' i d := by
  intro d
  induction d with
  | zero => intro i _; rfl
  | succ d ih => intro i e; rw [vT, vT, e i (by omega) (by omega), ih (fun j h1 h2 => e j (by omega) (by omega))]
theorem vT_lt {h : Nat → Nat} : ∀ {d i : Nat}, (∀ j, i ≤ j → j < i + d → h j < 4294967296) → vT h i d < 4294967296 ^ d := by
  intro d
  induction d with
  | zero => intro i _; simp [vT]
  | succ d ih =>
    intro i e
    have h1 := ih (i := i + 1) (fun j h1 h2 => e j (by omega) (by omega)); have h2 := e i (by omega) (by omega)
    have h3 : (h i + 1) * 4294967296 ^ d ≤ 4294967296 * 4294967296 ^ d := Nat.mul_le_mul_right _ (by omega)
    rw [Nat.add_mul, Nat.one_mul] at h3
    rw [vT, Nat.pow_succ, Nat.mul_comm (4294967296 ^ d)]
    omega
theorem ar_dv {K B q r1 r hi X V V' r' : Nat} (h1 : q * K + r1 = r * B + hi) (h2 : V' * K + r' = r1 * X + V) : (q * X + V') * K + r' = r * (X * B) + (hi * X + V) := by
  have h3 : (q * K + r1) * X = (r * B + hi) * X := by rw [h1]
  rw [Nat.add_mul, Nat.add_mul] at h3
  have e1 : q * K * X = q * X * K := by rw [Nat.mul_assoc, Nat.mul_comm K, ← Nat.mul_assoc]
  have e2 : r * B * X = r * (X * B) := by rw [Nat.mul_assoc, Nat.mul_comm B]
  rw [e1, e2] at h3
  rw [Nat.add_mul]
  omega
theorem divc_V {n : Nat} : ∀ (d i : Nat) (g : Nat → Int64) (h : Nat → Nat) (r : Nat), i + d = n → lim g h n → r < 4800 → ∃ (h' : Nat → Nat) (r' : Nat), lim (m_divU d i g (lN r)) h' n ∧ (∀ j, j < i → h' j = h j) ∧ r' < 4800 ∧ vT h' i d * 4800 + r' = r * 4294967296 ^ d + vT h i d := by
  intro d
  induction d with
  | zero => intro i g h r _ hl hr; exact ⟨h, r, hl, fun _ _ => rfl, hr, by simp [vT]⟩
  | succ d ih =>
    intro i g h r hi hl hr
    obtain ⟨e1, e2⟩ := hl i (by omega)
    have e3 : m_divU (d + 1) i g (lN r) = m_divU d (i + 1) (vp_updL g i (lN ((r * 4294967296 + h i) / 4800))) (lN ((r * 4294967296 + h i) % 4800)) := by
      show m_divU d (i + 1) (vp_updL g i (m_join (lN r) (g i) / lN 4800)) (m_join (lN r) (g i) - m_join (lN r) (g i) / lN 4800 * lN 4800) = _
      rw [e1, l_join (by omega) e2, pk_lRem (by omega) (by omega) (by omega), pk_lDiv (by omega) (by omega) (by omega)]
    obtain ⟨h', r', a1, a2, a3, a4⟩ := ih (i + 1) _ _ ((r * 4294967296 + h i) % 4800) (by omega) (lim_u (k := i) (v := (r * 4294967296 + h i) / 4800) hl (by omega)) (by omega)
    rw [e3]
    refine ⟨h', r', a1, fun j hj => by rw [a2 j (by omega), updN_ne (by omega)], a3, ?_⟩
    have e5 : vT (updN h i ((r * 4294967296 + h i) / 4800)) (i + 1) d = vT h (i + 1) d := vT_congr (fun j h1 _ => updN_ne (by omega))
    rw [e5] at a4
    rw [vT, vT, a2 i (by omega), updN_same, Nat.pow_succ]
    exact ar_dv (Nat.div_add_mod' _ _) a4
theorem ar_lex {a b X s t : Nat} (h : a < b) (hs : s < X) : a * X + s < b * X + t := by
  have h3 : (a + 1) * X ≤ b * X := Nat.mul_le_mul_right _ h
  rw [Nat.add_mul, Nat.one_mul] at h3
  omega
theorem hold_V {m : Nat} {r d : Nat → Int64} {hr hd : Nat → Nat} (lr : lim r hr m) (ld : lim d hd m) : ∀ (n i : Nat), i + n ≤ m → m_hold r d n i = if vT hd i n ≤ vT hr i n then nI 1 else nI 0 := by
  intro n
  induction n with
  | zero => intro i _; simp [m_hold, vT]
  | succ n ih =>
    intro i hi
    obtain ⟨r1, r2⟩ := lr i (by omega)
    obtain ⟨d1, d2⟩ := ld i (by omega)
    have b1 : vT hr (i + 1) n < 4294967296 ^ n := vT_lt (fun j _ h2 => (lr j (by omega)).2)
    have b2 : vT hd (i + 1) n < 4294967296 ^ n := vT_lt (fun j _ h2 => (ld j (by omega)).2)
    rw [m_hold, r1, d1, vT, vT]
    rcases Nat.lt_trichotomy (hr i) (hd i) with h | h | h
    · rw [if_neg (fun q => by have := (pk_lEQ (by omega) (by omega)).mp q; omega), if_pos ((pk_lLE (by omega) (by omega)).mpr (by omega)), if_neg (Nat.not_le.mpr (ar_lex h b1))]
    · rw [if_pos (by rw [h]), ih (i + 1) (by omega), h]
      by_cases c : vT hd (i + 1) n ≤ vT hr (i + 1) n
      · rw [if_pos c, if_pos (by omega)]
      · rw [if_neg c, if_neg (by omega)]
    · rw [if_neg (fun q => by have := (pk_lEQ (by omega) (by omega)).mp q; omega), if_neg (fun q => by have := (pk_lLE (by omega) (by omega)).mp q; omega), if_pos (Nat.le_of_lt (ar_lex h b2))]
theorem cmpc_V {m : Nat} {W : Nat → Int64} {w : Nat → Nat} (lw : lim W w m) {x y : Nat} : ∀ (n i : Nat), x * 8 + i + n ≤ m → y * 8 + i + n ≤ m → m_cmp W x y n i = if vT (fun k => w (x * 8 + k)) i n < vT (fun k => w (y * 8 + k)) i n then -1 else if vT (fun k => w (y * 8 + k)) i n < vT (fun k => w (x * 8 + k)) i n then nI 1 else nI 0 := by
  intro n
  induction n with
  | zero => intro i _ _; simp [m_cmp, vT]
  | succ n ih =>
    intro i hx hy
    obtain ⟨x1, x2⟩ := lw (x * 8 + i) (by omega)
    obtain ⟨y1, y2⟩ := lw (y * 8 + i) (by omega)
    have b1 : vT (fun k => w (x * 8 + k)) (i + 1) n < 4294967296 ^ n := vT_lt (fun j _ h2 => (lw (x * 8 + j) (by omega)).2)
    have b2 : vT (fun k => w (y * 8 + k)) (i + 1) n < 4294967296 ^ n := vT_lt (fun j _ h2 => (lw (y * 8 + j) (by omega)).2)
    rw [m_cmp, x1, y1, vT, vT]
    rcases Nat.lt_trichotomy (w (x * 8 + i)) (w (y * 8 + i)) with h | h | h
    · rw [if_neg (fun q => by have := (pk_lEQ (by omega) (by omega)).mp q; omega), if_neg (fun q => by have := (pk_lLE (by omega) (by omega)).mp q; omega), if_pos (ar_lex h b1)]
    · rw [if_pos (by rw [h]), ih (i + 1) (by omega) (by omega), h]
      rcases Nat.lt_trichotomy (vT (fun k => w (x * 8 + k)) (i + 1) n) (vT (fun k => w (y * 8 + k)) (i + 1) n) with g | g | g
      · rw [if_pos g, if_pos (by omega)]
      · rw [if_neg (by omega), if_neg (by omega), if_neg (by omega), if_neg (by omega)]
      · rw [if_neg (by omega), if_pos g, if_neg (by omega), if_pos (by omega)]
    · rw [if_neg (fun q => by have := (pk_lEQ (by omega) (by omega)).mp q; omega), if_pos ((pk_lLE (by omega) (by omega)).mpr (by omega)), if_neg (Nat.not_lt.mpr (Nat.le_of_lt (ar_lex h b2))), if_pos (ar_lex h b2)]
/-- doubling, subtraction on whole rows -/
theorem tw_W {n : Nat} {g : Nat → Int64} {h : Nat → Nat} {c N : Nat} (hl : lim g h n) (hc : c < 2) (hN : vV h n = N) (hb : 2 * N + c < 4294967296 ^ n) : ∃ h' : Nat → Nat, lim (m_twL n g (lN c)) h' n ∧ vV h' n = 2 * N + c := by
  obtain ⟨h', co, a1, -, a3⟩ := tw_V n g h c (Nat.le_refl _) hl hc
  rw [hN] at a3
  exact ⟨h', a1, ar_co a3 hb⟩
theorem sub_W {n : Nat} {g d : Nat → Int64} {h dd : Nat → Nat} {N D : Nat} (hl : lim g h n) (hd : lim d dd n) (hN : vV h n = N) (hD : vV dd n = D) (hle : D ≤ N) : ∃ h' : Nat → Nat, lim (m_subL d n g (lN 0)) h' n ∧ vV h' n = N - D := by
  obtain ⟨h', co, a1, -, a3⟩ := subc_V hd n g h 0 (Nat.le_refl _) hl (by omega)
  rw [hN, hD] at a3
  exact ⟨h', a1, ar_sb a3 (vV_lt (fun i hi => (a1 i hi).2)) hle⟩
theorem hold_W {n : Nat} {g d : Nat → Int64} {h dd : Nat → Nat} {N D : Nat} (hl : lim g h n) (hd : lim d dd n) (hN : vV h n = N) (hD : vV dd n = D) : m_hold g d n 0 = if D ≤ N then nI 1 else nI 0 := by
  have e1 : vT h 0 n = N := by have := vV_T (h := h) (d := n) (i := 0); rw [Nat.zero_add, hN] at this; simp [vV] at this; exact this.symm
  have e2 : vT dd 0 n = D := by have := vV_T (h := dd) (d := n) (i := 0); rw [Nat.zero_add, hD] at this; simp [vV] at this; exact this.symm
  rw [hold_V hl hd n 0 (by omega), e1, e2]
theorem ar_e {E Q D R : Nat} (h : 2 ^ E = Q * D + R) : 2 ^ (E + 1) = 2 * Q * D + 2 * R := by
  rw [Nat.pow_succ, h, Nat.mul_comm, Nat.mul_add, Nat.mul_assoc]
theorem ar_e2 {E Q D R : Nat} (h : 2 ^ E = Q * D + R) (hle : D ≤ 2 * R) : 2 ^ (E + 1) = (2 * Q + 1) * D + (2 * R - D) := by
  rw [ar_e h, Nat.add_mul, Nat.one_mul]; omega
theorem ar_qb {E Q D R : Nat} (h : 2 ^ E = Q * D + R) (hD : 2 ≤ D) (hE : E ≤ 255) : 2 * Q + 1 < 4294967296 ^ 8 := by
  have h1 : Q * 2 ≤ Q * D := Nat.mul_le_mul_left _ hD
  have h2 : 2 ^ E ≤ 2 ^ 255 := Nat.pow_le_pow_right (by omega) hE
  have h3 : (4294967296 : Nat) ^ 8 = 2 * 2 ^ 255 := by decide
  omega
theorem dvc_V {d : Nat → Int64} {hd : Nat → Nat} {D : Nat} (ld : lim d hd 8) (hDe : vV hd 8 = D) (hD2 : 2 ≤ D) (hD : D ≤ 2 ^ 255) : ∀ (n E : Nat) (r q : Nat → Int64) (hr hq : Nat → Nat) (R Q : Nat), E + n = 256 → lim r hr 8 → lim q hq 8 → vV hr 8 = R → vV hq 8 = Q → R < D → 2 ^ E = Q * D + R → ∃ h' : Nat → Nat, lim (m_dvL d n r q).2 h' 8 ∧ vV h' 8 = 2 ^ 256 / D := by
  intro n
  induction n with
  | zero =>
    intro E r q hr hq R Q hE _ lq _ eQ hR h1
    have e0 : E = 256 := by omega
    rw [e0] at h1
    exact ⟨hq, lq, by rw [eQ]; exact ar_q5 h1 hR⟩
  | succ n ih =>
    intro E r q hr hq R Q hE lr lq eR eQ hR h1
    have hb1 : 2 * R + 0 < 4294967296 ^ 8 := by
      have h3 : (4294967296 : Nat) ^ 8 = 2 * 2 ^ 255 := by decide
      omega
    have hb2 := ar_qb h1 hD2 (by omega)
    obtain ⟨h1', l1, v1⟩ := tw_W lr (by omega : 0 < 2) eR hb1
    rw [Nat.add_zero] at v1
    have hh := hold_W l1 ld v1 hDe
    have e3 : m_dvL d (n + 1) r q = if m_hold (m_twL 8 r (lN 0)) d 8 0 = 0 then m_dvL d n (m_twL 8 r (lN 0)) (m_twL 8 q (lN 0)) else m_dvL d n (m_subL d 8 (m_twL 8 r (lN 0)) (lN 0)) (m_twL 8 q (lN 1)) := rfl
    rw [e3, hh]
    by_cases c : D ≤ 2 * R
    · rw [if_pos c, if_neg (by decide)]
      obtain ⟨h2', l2, v2⟩ := sub_W l1 ld v1 hDe c
      obtain ⟨h3', l3, v3⟩ := tw_W lq (by omega : 1 < 2) eQ hb2
      exact ih (E + 1) _ _ h2' h3' (2 * R - D) (2 * Q + 1) (by omega) l2 l3 v2 v3 (by omega) (ar_e2 h1 c)
    · rw [if_neg c, if_pos (by decide)]
      obtain ⟨h3', l3, v3⟩ := tw_W lq (by omega : 0 < 2) eQ (by omega)
      exact ih (E + 1) _ _ h1' h3' (2 * R) (2 * Q) (by omega) l1 l3 v1 v3 (by omega) (ar_e h1)
