/-! LENGTHS and WORKS of the class -/
theorem j_ius {x k : Nat} (hx : x < 2 ^ 32) (hk : k = 16 ∨ k = 8 ∨ k = 4 ∨ k = 2 ∨ k = 1) : j_iushr (nI x) (nI k) = nI (x / 2 ^ k) := by
  unfold j_iushr
  rcases hk with rfl | rfl | rfl | rfl | rfl <;> exact pk_ushrN hx _ _ (by decide)
theorem nz_s {x sf a : Nat} {am : Int32} (ham : am = -(nI a)) (ha : a = 16 ∨ a = 8 ∨ a = 4 ∨ a = 2) (hx : x < 2 ^ 31) (h1 : 1 ≤ x / 2 ^ sf) (h2 : x / 2 ^ sf < 2 ^ a * 2 ^ a) (h3 : sf + a ≤ 31) :
    ∃ sf' : Nat, m_nz (nI (2 ^ a)) (nI a) am (nI (31 - sf), nI (x / 2 ^ sf)) = (nI (31 - sf'), nI (x / 2 ^ sf')) ∧ 1 ≤ x / 2 ^ sf' ∧ x / 2 ^ sf' < 2 ^ a ∧ sf' ≤ sf + a := by
  have hy : x / 2 ^ sf ≤ x := Nat.div_le_self _ _
  have ha2 : 2 ^ a ≤ 2 ^ 16 := Nat.pow_le_pow_right (by omega) (by omega)
  unfold m_nz
  by_cases c : x / 2 ^ sf < 2 ^ a
  · exact ⟨sf, by rw [if_pos (nI_lt c (by omega))], h1, c, by omega⟩
  · refine ⟨sf + a, ?_, ?_, ?_, Nat.le_refl _⟩
    · rw [if_neg (nI_nlt (by omega) (by omega)), ham, ← Int32.sub_eq_add_neg, pk_sub (by omega), j_ius (by omega) (by omega), Nat.div_div_eq_div_mul, ← Nat.pow_add, show 31 - sf - a = 31 - (sf + a) by omega]
    · rw [Nat.pow_add, ← Nat.div_div_eq_div_mul]
      exact (Nat.le_div_iff_mul_le (Nat.pow_pos (by omega))).mpr (by omega)
    · rw [Nat.pow_add, ← Nat.div_div_eq_div_mul]
      exact (Nat.div_lt_iff_lt_mul (Nat.pow_pos (by omega))).mpr h2
theorem nlzi_V {x : Nat} (h0 : 0 < x) (hx : x < 2 ^ 31) : ∃ L : Nat, m_nlzi (nI x) = nI (31 - L) ∧ L ≤ 30 ∧ 2 ^ L ≤ x ∧ x < 2 ^ (L + 1) := by
  obtain ⟨s1, e1, a1, b1, c1⟩ := nz_s (x := x) (sf := 0) (a := 16) (am := -16) (by decide) (by omega) hx (by rw [Nat.pow_zero, Nat.div_one]; omega) (by rw [Nat.pow_zero, Nat.div_one]; omega) (by omega)
  obtain ⟨s2, e2, a2, b2, c2⟩ := nz_s (x := x) (sf := s1) (a := 8) (am := -8) (by decide) (by omega) hx a1 (by omega) (by omega)
  obtain ⟨s3, e3, a3, b3, c3⟩ := nz_s (x := x) (sf := s2) (a := 4) (am := -4) (by decide) (by omega) hx a2 (by omega) (by omega)
  obtain ⟨s4, e4, a4, b4, c4⟩ := nz_s (x := x) (sf := s3) (a := 2) (am := -2) (by decide) (by omega) hx a3 (by omega) (by omega)
  rw [Nat.pow_zero, Nat.div_one] at e1
  have hp : (0 : Int32) < nI x := by rw [← nI_0]; exact nI_lt h0 hx
  have e5 : m_nlzi (nI x) = nI (31 - s4) - nI (x / 2 ^ s4 / 2) := by
    unfold m_nlzi
    rw [if_pos hp]
    have q1 : m_nz (nI 65536) (nI 16) (-16) (nI 31, nI x) = (nI (31 - s1), nI (x / 2 ^ s1)) := e1
    have q2 : m_nz (nI 256) (nI 8) (-8) (nI (31 - s1), nI (x / 2 ^ s1)) = (nI (31 - s2), nI (x / 2 ^ s2)) := e2
    have q3 : m_nz (nI 16) (nI 4) (-4) (nI (31 - s2), nI (x / 2 ^ s2)) = (nI (31 - s3), nI (x / 2 ^ s3)) := e3
    have q4 : m_nz (nI 4) (nI 2) (-2) (nI (31 - s3), nI (x / 2 ^ s3)) = (nI (31 - s4), nI (x / 2 ^ s4)) := e4
    rw [q1, q2, q3, q4]
    show nI (31 - s4) - j_iushr (nI (x / 2 ^ s4)) (nI 1) = _
    rw [j_ius (k := 1) (by omega) (by omega), Nat.pow_one]
  have hmul : 2 ^ s4 * (x / 2 ^ s4) ≤ x := Nat.mul_div_le _ _
  have hlt : x < 2 ^ s4 * (x / 2 ^ s4 + 1) := by
    have := Nat.lt_mul_div_succ x (Nat.pow_pos (show 0 < 2 by omega) (n := s4))
    exact this
  rcases Nat.lt_or_ge (x / 2 ^ s4) 2 with g | g
  · have g1 : x / 2 ^ s4 = 1 := by omega
    rw [g1] at hmul hlt e5
    refine ⟨s4, by rw [e5, pk_sub (by omega), show 31 - s4 - 1 / 2 = 31 - s4 by omega], by omega, by omega, ?_⟩
    rw [Nat.pow_succ]; omega
  · have g1 : x / 2 ^ s4 / 2 = 1 := by omega
    rw [g1] at e5
    have hle : 2 ^ (s4 + 1) ≤ x := by
      rw [Nat.pow_succ]
      have : 2 ^ s4 * 2 ≤ 2 ^ s4 * (x / 2 ^ s4) := Nat.mul_le_mul_left _ g
      omega
    have hL : s4 + 1 < 31 := (Nat.pow_lt_pow_iff_right (by omega : 1 < 2)).mp (Nat.lt_of_le_of_lt hle hx)
    refine ⟨s4 + 1, by rw [e5, pk_sub (by omega), show 31 - s4 - 1 = 31 - (s4 + 1) by omega], by omega, hle, ?_⟩
    rw [Nat.pow_succ, Nat.pow_succ]
    have : 2 ^ s4 * (x / 2 ^ s4 + 1) ≤ 2 ^ s4 * 4 := Nat.mul_le_mul_left _ (by omega)
    omega
theorem neg_nI {x : Nat} (h1 : 2 ^ 31 ≤ x) (h2 : x < 2 ^ 32) : nI x < 0 := by
  rw [Int32.lt_iff_toInt_lt]
  have c1 := BitVec.toInt_eq_toNat_cond (nI x).toBitVec
  rw [pk_tn h2] at c1
  have c2 : (nI x).toInt = if 2 * x < 2 ^ 32 then (x : Int) else (x : Int) - ((2 ^ 32 : Nat) : Int) := c1
  rw [if_neg (by omega)] at c2
  rw [c2, Int32.toInt_zero]
  omega
theorem len_V {x : Nat} (h0 : 0 < x) (hx : x < 4294967296) : ∃ b : Nat, m_len (lN x) = nI b ∧ 1 ≤ b ∧ b ≤ 32 ∧ 2 ^ (b - 1) ≤ x ∧ x < 2 ^ b := by
  have e1 : (j_ushr (lN x) (nI 32)).toInt32 = nI 0 := by rw [l_us32 (by omega), lN_i, Nat.div_eq_of_lt hx]
  unfold m_len m_nlz
  rw [e1, if_pos nI_0, lN_i]
  rcases Nat.lt_or_ge x (2 ^ 31) with g | g
  · obtain ⟨L, e, hL, a, b⟩ := nlzi_V h0 g
    refine ⟨L + 1, ?_, by omega, by omega, by rw [Nat.add_sub_cancel]; exact a, b⟩
    rw [e, nI_add, pk_sub (by omega), show 64 - (32 + (31 - L)) = L + 1 by omega]
  · have hn := neg_nI g hx
    have e : m_nlzi (nI x) = nI 0 := by
      unfold m_nlzi
      rw [if_neg (fun q => by rw [Int32.lt_iff_toInt_lt] at q hn; omega), if_neg (fun q => by rw [q] at hn; exact absurd hn (by decide))]
    refine ⟨32, ?_, by omega, by omega, g, hx⟩
    rw [e, nI_add, pk_sub (by omega)]
theorem ar_len {x X b p Y : Nat} (hX : X = 2 ^ p) (h1 : 2 ^ (b - 1) ≤ x) (h2 : x < 2 ^ b) (hb : 1 ≤ b) (hY : Y < X) : 2 ^ (p + b - 1) ≤ x * X + Y ∧ x * X + Y < 2 ^ (p + b) := by
  have e1 : 2 ^ (p + b - 1) = 2 ^ (b - 1) * X := by rw [hX, ← Nat.pow_add]; congr 1; omega
  have e2 : 2 ^ (p + b) = 2 ^ b * X := by rw [hX, ← Nat.pow_add]; congr 1; omega
  have h3 : 2 ^ (b - 1) * X ≤ x * X := Nat.mul_le_mul_right _ h1
  have h4 : (x + 1) * X ≤ 2 ^ b * X := Nat.mul_le_mul_right _ h2
  rw [Nat.add_mul, Nat.one_mul] at h4
  rw [e1, e2]
  omega
theorem dlen_V {f : Nat → Int64} {h : Nat → Nat} (hl : lim f h 8) : ∀ (n i : Nat), i + n = 8 → 0 < vT h i n → ∃ L : Nat, m_dlen f n i = nI L ∧ 1 ≤ L ∧ L ≤ 32 * n ∧ 2 ^ (L - 1) ≤ vT h i n ∧ vT h i n < 2 ^ L := by
  intro n
  induction n with
  | zero => intro i _ h0; simp [vT] at h0
  | succ n ih =>
    intro i hi h0
    obtain ⟨e1, e2⟩ := hl i (by omega)
    have hY : vT h (i + 1) n < 4294967296 ^ n := vT_lt (fun j _ h2 => (hl j (by omega)).2)
    rw [m_dlen, e1]
    rcases Nat.eq_zero_or_pos (h i) with g | g
    · have ev : vT h i (n + 1) = vT h (i + 1) n := by rw [vT, g, Nat.zero_mul, Nat.zero_add]
      rw [g, if_pos (by rfl), ev]
      rw [ev] at h0
      obtain ⟨L, a1, a2, a3, a4⟩ := ih (i + 1) (by omega) h0
      exact ⟨L, a1, a2, by omega, a4⟩
    · rw [if_neg (l_ne0 g (by omega))]
      obtain ⟨b, b1, b2, b3, b4, b5⟩ := len_V g e2
      have hX : (4294967296 : Nat) ^ n = 2 ^ (32 * n) := by rw [Nat.pow_mul]
      obtain ⟨q1, q2⟩ := ar_len hX b4 b5 b2 hY
      refine ⟨32 * n + b, ?_, by omega, by omega, ?_, ?_⟩
      · rw [b1, nI_add, show 32 * (7 - i) = 32 * n by omega]
      · rw [vT]; exact q1
      · rw [vT]; exact q2
theorem vT_0 {h : Nat → Nat} {n N : Nat} (hN : vV h n = N) : vT h 0 n = N := by
  have := vV_T (h := h) (d := n) (i := 0)
  rw [Nat.zero_add, hN] at this
  simp [vV] at this
  exact this.symm
/-- the class's divisor: the target and one -/
theorem set_W {v : Nat} {fd : Nat → Int64} {hd : Nat → Nat} (hv : v < 4294967296) (hT : tgt v + 1 < 4294967296 ^ 8) (hl : lim fd hd 8) : ∃ h' : Nat → Nat, lim (m_set (lN v) fd) h' 8 ∧ vV h' 8 = tgt v + 1 := by
  have hth : ∀ i, i < 8 → m_th (lN v) i = lN ((fun i => tgt v / 4294967296 ^ (7 - i) % 4294967296) i) ∧ (fun i => tgt v / 4294967296 ^ (7 - i) % 4294967296) i < 4294967296 := fun i hi => m_th_V hv hi
  obtain ⟨h', co, a1, -, a3⟩ := set_V hth 8 fd hd 1 (Nat.le_refl _) hl (by omega)
  have e : vV (fun i => tgt v / 4294967296 ^ (7 - i) % 4294967296) 8 = tgt v := by
    rw [vV_dig (N := tgt v) (n := 8) (fun i _ => rfl) (Nat.le_refl _), Nat.sub_self, Nat.pow_zero, Nat.div_one, Nat.mod_eq_of_lt (Nat.lt_of_succ_lt hT)]
  rw [e] at a3
  exact ⟨h', a1, ar_co a3 hT⟩
theorem fill_lim {f : Nat → Int64} : lim (m_fill f 8 0) (fun _ => 0) 8 := by
  intro i hi; unfold m_fill; rw [if_pos hi]; exact ⟨rfl, by show 0 < 4294967296; omega⟩
theorem vV_z : ∀ {k : Nat}, vV (fun _ => 0) k = 0 := by
  intro k
  induction k with
  | zero => rfl
  | succ k ih => rw [vV, ih]
theorem vV_one {j w : Nat} : ∀ {k : Nat}, j < k → vV (updN (fun _ => 0) j w) k = w * 4294967296 ^ (k - 1 - j) := by
  intro k
  induction k with
  | zero => intro h; omega
  | succ k ih =>
    intro h
    rw [vV]
    by_cases e : j = k
    · subst e
      rw [updN_same, vV_upd (Nat.le_refl _), vV_z, Nat.add_sub_cancel, Nat.sub_self, Nat.pow_zero]; omega
    · rw [ih (by omega), updN_ne (by omega), show k + 1 - 1 - j = (k - 1 - j) + 1 by omega, Nat.pow_succ, Nat.mul_assoc, Nat.add_zero]
/-- the class's work of a target -/
theorem dv_W {d r q : Nat → Int64} {hd : Nat → Nat} {D L : Nat} (ld : lim d hd 8) (hDe : vV hd 8 = D) (hL2 : 2 ≤ L) (hL : L ≤ 256) (h1 : 2 ^ (L - 1) ≤ D) (hD : D ≤ 2 ^ 255) : ∃ h' : Nat → Nat, lim (m_dv d r q (L - 2)).2 h' 8 ∧ vV h' 8 = 2 ^ 256 / D := by
  have hp : (L - 2) % 32 < 32 := Nat.mod_lt _ (by omega)
  have e1 : j_shl 1 (nI ((L - 2) % 32)) = lN (2 ^ ((L - 2) % 32)) := by
    unfold j_shl
    have : lN 1 <<< ((nI ((L - 2) % 32)).toInt64 &&& 63) = lN (1 * 2 ^ ((L - 2) % 32)) := wb_shl 1 (by omega)
    rw [Nat.one_mul] at this
    exact this
  have hb : 2 ^ ((L - 2) % 32) < 4294967296 := Nat.lt_of_lt_of_le (Nat.pow_lt_pow_right (by omega) hp) (by decide)
  have lr : lim (vp_updL (m_fill r 8 0) (7 - (L - 2) / 32) (lN (2 ^ ((L - 2) % 32)))) (updN (fun _ => 0) (7 - (L - 2) / 32) (2 ^ ((L - 2) % 32))) 8 := lim_u fill_lim hb
  have vr : vV (updN (fun _ => 0) (7 - (L - 2) / 32) (2 ^ ((L - 2) % 32))) 8 = 2 ^ (L - 2) := by
    have hB : (4294967296 : Nat) = 2 ^ 32 := rfl
    rw [vV_one (show 7 - (L - 2) / 32 < 8 by omega), show 8 - 1 - (7 - (L - 2) / 32) = (L - 2) / 32 by omega, hB, ← Nat.pow_mul, ← Nat.pow_add]
    congr 1; omega
  have hlt : 2 ^ (L - 2) < D := Nat.lt_of_lt_of_le (Nat.pow_lt_pow_right (by omega) (by omega)) h1
  have hD2 : 2 ≤ D := Nat.le_trans (by have : 2 ^ 1 ≤ 2 ^ (L - 1) := Nat.pow_le_pow_right (by omega) (by omega); exact this) h1
  have := dvc_V ld hDe hD2 hD (256 - (L - 2)) (L - 2) _ _ _ _ (2 ^ (L - 2)) 0 (by omega) lr (fill_lim (f := q)) vr vV_z hlt (by rw [Nat.zero_mul, Nat.zero_add])
  rw [← e1] at this
  exact this
