/-! WHAT HOLDS BETWEEN CALLS -/
theorem rank_indep {t : Int64} {c : Nat} : ∀ (k : Nat) (g g' : Nat → Int64), k ≤ c → (∀ i, i < k → g i = g' i) → (∀ i, k < i → i ≤ c → g i = g' i) → ∀ i, i ≤ c → m_rank t k g i = m_rank t k g' i := by
  intro k
  induction k with
  | zero =>
    intro g g' _ _ h2 i hi
    show vp_updL g 0 t i = vp_updL g' 0 t i
    rcases Nat.eq_zero_or_pos i with e | e
    · subst e; rw [pk_uLs, pk_uLs]
    · rw [pk_uLn (by omega), pk_uLn (by omega)]; exact h2 i e hi
  | succ k ih =>
    intro g g' hk h1 h2 i hi
    have e0 := h1 k (by omega)
    rw [m_rank, m_rank, e0]
    by_cases cc : g' k ≤ t
    · rw [if_pos cc, if_pos cc]
      by_cases e : i = k + 1
      · subst e; rw [pk_uLs, pk_uLs]
      · rw [pk_uLn e, pk_uLn e]
        rcases Nat.lt_or_ge i (k + 1) with q | q
        · exact h1 i q
        · exact h2 i (by omega) hi
    · rw [if_neg cc, if_neg cc]
      refine ih _ _ (by omega) (fun x hx => ?_) (fun x hx hxc => ?_) i hi
      · rw [pk_uLn (by omega), pk_uLn (by omega)]; exact h1 x (by omega)
      · by_cases e : x = k + 1
        · subst e; rw [pk_uLs, pk_uLs]
        · rw [pk_uLn e, pk_uLn e]; exact h2 x (by omega) hxc
theorem med_indep {P : Nat → Nat} {T : Nat → Int64} : ∀ (d c a : Nat) (g g' : Nat → Int64), (∀ i, i < c → g i = g' i) → (m_med P T d c a g).2 = (m_med P T d c a g').2 ∧ c ≤ (m_med P T d c a g).2 ∧ ∀ i, i < (m_med P T d c a g).2 → (m_med P T d c a g).1 i = (m_med P T d c a g').1 i := by
  intro d
  induction d with
  | zero => intro c a g g' h; exact ⟨rfl, Nat.le_refl _, h⟩
  | succ d ih =>
    intro c a g g' h
    cases a with
    | zero => exact ⟨rfl, Nat.le_refl _, h⟩
    | succ x =>
      have e := ih (c + 1) (m_pn P x) (m_rank (T x) c g) (m_rank (T x) c g') (fun i hi => rank_indep c g g' (Nat.le_refl _) h (fun i h1 h2 => by omega) i (by omega))
      exact ⟨e.1, by have := e.2.1; show c ≤ (m_med P T d (c + 1) (m_pn P x) (m_rank (T x) c g)).2; omega, e.2.2⟩
def rMed (P : Nat → Nat) (T : Nat → Int64) (j : Nat) : Int64 := (m_med P T 11 0 (j + 1) (fun _ => 0)).1 ((m_med P T 11 0 (j + 1) (fun _ => 0)).2 / 2)
theorem med_eq {P : Nat → Nat} {T : Nat → Int64} {j : Nat} (g : Nat → Int64) : (m_med P T 11 0 (j + 1) g).1 ((m_med P T 11 0 (j + 1) g).2 / 2) = rMed P T j := by
  have h1 : ∀ g : Nat → Int64, m_med P T 11 0 (j + 1) g = m_med P T 10 1 (m_pn P j) (m_rank (T j) 0 g) := fun _ => rfl
  have h2 := med_indep (P := P) (T := T) 11 0 (j + 1) g (fun _ => 0) (fun i hi => by omega)
  have h3 : 1 ≤ (m_med P T 11 0 (j + 1) g).2 := by
    rw [h1]
    exact (med_indep (P := P) (T := T) 10 1 (m_pn P j) (m_rank (T j) 0 g) (m_rank (T j) 0 g) (fun _ _ => rfl)).2.1
  unfold rMed
  rw [← h2.1]
  exact h2.2.2 _ (by omega)
def rSpan (P Hh : Nat → Nat) (Tm : Nat → Int64) (j : Nat) : Int64 := Tm j - Tm (m_anc P (Hh j - (Hh j - 7)) j)
def rMust (P Hh : Nat → Nat) (Tm Bt : Nat → Int64) (j : Nat) : Int64 := if (Hh j + 1) % 8 = 0 then m_next (m_pr (Bt j) (rSpan P Hh Tm j) (fun _ => 0)) else Bt j
def wrk (v : Nat) : Nat := 2 ^ 256 / (tgt v + 1)
theorem good_T {v h : Nat} (hg : good v h) : tgt v < 2 ^ 256 := Nat.lt_of_le_of_lt hg.2.1 (Nat.lt_trans LT_lt (by decide))
theorem good_ge {v h : Nat} (hg : good v h) (hh : h ≤ 300) : 2 ^ 104 ≤ tgt v := Nat.le_trans (Nat.pow_le_pow_right (by omega) (by omega)) hg.2.2
theorem wrk_le {v h : Nat} (hg : good v h) (hh : h ≤ 300) : wrk v ≤ 2 ^ 152 := by
  have h1 := good_ge hg hh
  unfold wrk
  have h2 : 2 ^ 256 / (tgt v + 1) ≤ 2 ^ 256 / 2 ^ 104 := Nat.div_le_div_left (by omega) (Nat.pow_pos (by omega))
  have h3 : (2 : Nat) ^ 256 / 2 ^ 104 = 2 ^ 152 := by decide +kernel
  omega
/-- what class and reference share -/
def Inv (rm n tp : Nat) (P Hh : Nat → Nat) (Bt : Nat → Int64) (Zb val : Nat → Nat) : Prop :=
  (1 ≤ n ∧ n ≤ rm ∧ 2 ≤ rm ∧ rm ≤ 300) ∧ (∀ x : Nat, 0 < x → x < n → P x < x) ∧ Hh 0 = 0 ∧ (∀ x : Nat, 0 < x → x < n → Hh x = Hh (P x) + 1) ∧ (∀ x : Nat, x < n → Hh x < 300) ∧ (∀ x : Nat, Zb x < 2) ∧ Zb 0 = 0 ∧ (∀ x, n ≤ x → Zb x = 0) ∧ (∀ x, 0 < x → x < n → ¬ Zb (P x) = 0 → ¬ Zb x = 0) ∧ (∀ x, x < n → ∃ v : Nat, Bt x = lN v ∧ good v (Hh x)) ∧ (∀ x, x < n → val x ≤ (Hh x + 1) * 2 ^ 152) ∧ isBest Zb val n tp
/-- the class's own -/
def InvC (rm n : Nat) (P Ch : Nat → Nat) (Wk pr : Nat → Int64) (kn : Int64) (fd fq : Nat → Int64) (val : Nat → Nat) : Prop :=
  (∀ j, j < n → Ch j = r_ch P j n 0 0) ∧ (∀ j, n ≤ j → Ch j = 0) ∧ (∃ w : Nat → Nat, lim Wk w (rm * 8) ∧ ∀ x, x < n → vV (fun k => w (x * 8 + k)) 8 = val x) ∧ (∃ h : Nat → Nat, lim pr h 9) ∧ (∃ h : Nat → Nat, lim fd h 8) ∧ (∃ (vk : Nat) (hq : Nat → Nat), kn = lN vk ∧ vk < 4294967296 ∧ lim fq hq 8 ∧ vV hq 8 = wrk vk)
/-- the reference's own -/
def InvM (n : Nat) (Sm α β γ val : Nat → Nat) : Prop := by8 Sm ∧ by8 α ∧ by8 β ∧ by8 γ ∧ ∀ x, x < n → sV (shf Sm (40 * x)) 0 40 = val x
theorem must_C {v h : Nat} {Bt : Nat → Int64} {j : Nat} (hg : good v h) (hb : Bt j = lN v) {pr : Nat → Int64} {hp : Nat → Nat} (hl : lim pr hp 9) (t : Int64) : m_next (m_pr (Bt j) t pr) = m_next (m_pr (Bt j) t (fun _ => 0)) := by
  have l0 : lim (fun _ => (0 : Int64)) (fun _ => 0) 9 := fun i _ => ⟨rfl, by show 0 < 4294967296; omega⟩
  rw [hb, must_eq hg.1 (good_T hg) hl by8_z0 by8_z0, must_eq hg.1 (good_T hg) l0 by8_z0 by8_z0]
theorem must_M {v h : Nat} {Bt : Nat → Int64} {j : Nat} (hg : good v h) (hb : Bt j = lN v) {α β : Nat → Nat} (ha : by8 α) (hbb : by8 β) (t : Int64) : lN (r_must v t α β) = m_next (m_pr (Bt j) t (fun _ => 0)) := by
  have l0 : lim (fun _ => (0 : Int64)) (fun _ => 0) 9 := fun i _ => ⟨rfl, by show 0 < 4294967296; omega⟩
  rw [hb, must_eq hg.1 (good_T hg) l0 ha hbb]
/-- the bits that a child must have are good ones -/
theorem must_good {rm n tp : Nat} {P Hh : Nat → Nat} {Tm Bt : Nat → Int64} {Zb val : Nat → Nat} (hI : Inv rm n tp P Hh Bt Zb val) {j : Nat} (hj : j < n) : ∃ v : Nat, rMust P Hh Tm Bt j = lN v ∧ good v (Hh j + 1) := by
  obtain ⟨-, -, -, -, hb, -, -, -, -, hB, -⟩ := hI
  obtain ⟨v, e, g⟩ := hB j hj
  unfold rMust
  by_cases c : (Hh j + 1) % 8 = 0
  · rw [if_pos c]
    exact ⟨r_must v (rSpan P Hh Tm j) z0 z0, (must_M g e by8_z0 by8_z0 _).symm, good_ret by8_z0 by8_z0 g (hb j hj) c⟩
  · rw [if_neg c]
    exact ⟨v, e, good_same g c⟩
/-- the class's worth of good bits -/
theorem worth_C {v h : Nat} (hg : good v h) (hh : h ≤ 300) {fd r q : Nat → Int64} {hd : Nat → Nat} (hl : lim fd hd 8) : ∃ L : Nat, m_dlen (m_set (lN v) fd) 8 0 = nI L ∧ 2 ≤ L ∧ L ≤ 256 ∧ (∃ h' : Nat → Nat, lim (m_set (lN v) fd) h' 8) ∧ ∃ hq : Nat → Nat, lim (m_dv (m_set (lN v) fd) r q (L - 2)).2 hq 8 ∧ vV hq 8 = wrk v := by
  have h255 := Nat.lt_of_le_of_lt hg.2.1 LT_lt
  have h104 := good_ge hg hh
  have e8 : (4294967296 : Nat) ^ 8 = 2 * 2 ^ 255 := by decide
  obtain ⟨h', l', V'⟩ := set_W hg.1 (by rw [e8]; omega) hl
  have T' := vT_0 V'
  obtain ⟨L, a1, a2, a3, a4, a5⟩ := dlen_V l' 8 0 rfl (by rw [T']; omega)
  rw [T'] at a4 a5
  have hL2 : 2 ≤ L := by
    rcases Nat.lt_or_ge L 2 with g | g
    · exfalso
      have : 2 ^ L ≤ 2 ^ 1 := Nat.pow_le_pow_right (by omega) (by omega)
      have e104 : (2 : Nat) ^ 104 = 2 ^ 1 * 2 ^ 103 := by decide
      have : 1 ≤ (2 : Nat) ^ 103 := Nat.pow_pos (by omega)
      omega
    · exact g
  obtain ⟨hq, lq, Vq⟩ := dv_W (r := r) (q := q) l' V' hL2 a3 a4 (by omega)
  exact ⟨L, a1, hL2, a3, ⟨h', l'⟩, hq, lq, Vq⟩
theorem sum_C {F Wk : Nat → Int64} {f w val : Nat → Nat} {rm n j wv : Nat} (lf : lim F f 8) (hf : vV f 8 = wv) (lw : lim Wk w (rm * 8)) (hj : j < n) (hn : n < rm) (hv : ∀ x, x < n → vV (fun k => w (x * 8 + k)) 8 = val x) (hb : val j + wv < 2 ^ 256) : ∃ w' : Nat → Nat, lim (m_sum F n j Wk) w' (rm * 8) ∧ ∀ x, x < n + 1 → vV (fun k => w' (x * 8 + k)) 8 = updN val n (val j + wv) x := by
  have e8 : (4294967296 : Nat) ^ 8 = 2 ^ 256 := by decide
  obtain ⟨w', co, a1, a2, a3⟩ := sumc_V (x := n) (y := j) (m := rm * 8) lf hj (by omega) 8 Wk w 0 (Nat.le_refl _) lw (by omega)
  rw [hv j hj, hf, Nat.add_zero] at a3
  refine ⟨w', a1, fun x hx => ?_⟩
  by_cases e : x = n
  · subst e
    rw [updN_same]
    exact ar_co a3 (by rw [e8]; exact hb)
  · rw [updN_ne e, ← hv x (by omega)]
    exact vV_congr (fun i hi => a2 (x * 8 + i) (by omega))
theorem sum_M {A Sm val : Nat → Nat} {n j wv : Nat} (hf : sV A 0 40 = wv) (hj : j < n) (hv : ∀ x, x < n → sV (shf Sm (40 * x)) 0 40 = val x) (hb : val j + wv < 2 ^ 256) : ∀ x, x < n + 1 → sV (shf (r_sumL A n j 40 0 0 Sm) (40 * x)) 0 40 = updN val n (val j + wv) x := by
  obtain ⟨co, a2, a3⟩ := sum_V (A := A) hj 40 0 0 Sm rfl
  intro x hx
  by_cases e : x = n
  · subst e
    rw [updN_same, ← sV_shf]
    rw [hf, sV_shf (S := Sm) (b := 40 * j), hv j hj] at a3
    have h40 : (2 : Nat) ^ 256 < 256 ^ 40 := by decide
    have a4 : sV (r_sumL A x j 40 0 0 Sm) (40 * x + 0) 40 + co * 256 ^ 40 = val j + wv := by rw [a3, Nat.add_zero, Nat.add_comm]
    exact ar_co a4 (Nat.lt_trans hb h40)
  · rw [updN_ne e, ← hv x (by omega)]
    exact sV_congr (fun i _ hi => by unfold shf; exact a2 _ (by omega))
