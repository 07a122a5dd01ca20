theorem fork_congr {P Hh : Nat → Nat} {n : Nat} (hp : ∀ x : Nat, 0 < x → x < n → P x < x) (h0 : Hh 0 = 0) (hs : ∀ x : Nat, 0 < x → x < n → Hh x = Hh (P x) + 1) (hn : n ≤ 300) {v : Nat} (hv : v < n) (hv0 : 0 < v) : ∀ (d u : Nat), u < v → r_fork P Hh v d u = r_fork P Hh (P v) d u := by
  intro d
  induction d with
  | zero => intro u _; rfl
  | succ d ih =>
    intro u hu
    have e := dsc_rec hp h0 hs (i := v) (j := u) hv hn (by omega) hv0 (by omega)
    rw [r_fork, r_fork]
    by_cases c : r_bel P Hh v (Hh u) = nI u
    · rw [if_pos c, if_pos (e.mp c)]
    · rw [if_neg c, if_neg (fun q => c (e.mpr q))]
      rcases Nat.eq_zero_or_pos u with g | g
      · exfalso
        apply c
        subst g
        unfold r_bel
        rw [h0, if_pos (by omega), Nat.sub_zero, anc_root hp h0 hs hv rfl]
      · have := hp u g (by omega)
        exact ih (P u) (by omega)
/-- PROMISE 12, class and reference -/
theorem fork_eq {P Hh : Nat → Nat} {n : Nat} (hp : ∀ x : Nat, 0 < x → x < n → P x < x) (h0 : Hh 0 = 0) (hs : ∀ x : Nat, 0 < x → x < n → Hh x = Hh (P x) + 1) (hn : n ≤ 300) : ∀ (d k u v : Nat), u < n → v < n → u + v < d → u < k → m_fork P d u v = r_fork P Hh v k u := by
  intro d
  induction d with
  | zero => intro k u v _ _ h; omega
  | succ d ih =>
    intro k u v hu hv hd hk
    obtain ⟨k, rfl⟩ : ∃ k' : Nat, k = k' + 1 := ⟨k - 1, by omega⟩
    rw [m_fork]
    by_cases c : u = v
    · subst c
      rw [if_pos rfl, r_fork, if_pos dsc_self]
    · rw [if_neg c]
      by_cases c2 : u ≤ v
      · rw [if_pos c2]
        have hv0 : 0 < v := by omega
        have hpv := hp v hv0 hv
        rw [fork_congr hp h0 hs hn hv hv0 (k + 1) u (by omega)]
        exact ih (k + 1) u (P v) hu (by omega) (by omega) hk
      · rw [if_neg c2]
        have hu0 : 0 < u := by omega
        have hpu := hp u hu0 hu
        have nb : ¬ r_bel P Hh v (Hh u) = nI u := fun q => by have := dsc_le hp hv hn hu q; omega
        rw [r_fork, if_neg nb]
        exact ih k (P u) v (by omega) hv (by omega) (by omega)
theorem row_eq : ∀ (d hh sp i : Nat), (i ≤ 9 → sp = 1) → r_row d hh sp i = m_row d hh sp (i + 1) := by
  intro d
  induction d with
  | zero => intro hh sp i _; rfl
  | succ d ih =>
    intro hh sp i h
    rw [r_row, m_row]
    by_cases c : hh = 0
    · rw [if_pos c, if_pos c]
    · rw [if_neg c, if_neg c]
      by_cases c2 : i < 9
      · have e := h (by omega)
        subst e
        rw [if_pos c2, if_pos (by omega)]
        exact ih _ _ _ (fun _ => rfl)
      · rw [if_neg c2, if_neg (by omega), Nat.mul_comm 2 sp]
        exact ih _ _ _ (fun q => by omega)
theorem row_none : ∀ (d hh sp i : Nat), hh < d → 1 ≤ sp → r_row d hh sp i = none := by
  intro d
  induction d with
  | zero => intro hh sp i h _; omega
  | succ d ih =>
    intro hh sp i h hs
    rw [r_row]
    by_cases c : hh = 0
    · rw [if_pos c]
    · rw [if_neg c]
      by_cases c2 : i < 9
      · rw [if_pos c2]; exact ih _ _ _ (by omega) (by omega)
      · rw [if_neg c2]; exact ih _ _ _ (by omega) (by omega)
theorem ch_snoc {P : Nat → Nat} {j : Nat} : ∀ (d i c : Nat), r_ch P j (d + 1) i c = r_ch P j d i c + (if pF P (i + d) = nI j then 1 else 0) := by
  intro d
  induction d with
  | zero =>
    intro i c
    show (if pF P i = nI j then c + 1 else c) = c + (if pF P i = nI j then 1 else 0)
    by_cases h : pF P i = nI j
    · rw [if_pos h, if_pos h]
    · rw [if_neg h, if_neg h]; rfl
  | succ d ih =>
    intro i c
    have e : r_ch P j (d + 1 + 1) i c = r_ch P j (d + 1) (i + 1) (if pF P i = nI j then c + 1 else c) := rfl
    rw [e, ih, r_ch, show i + 1 + d = i + (d + 1) by omega]
theorem ch_congr {P P' : Nat → Nat} {j : Nat} : ∀ (d i c : Nat), (∀ x, x < i + d → pF P x = pF P' x) → r_ch P j d i c = r_ch P' j d i c := by
  intro d
  induction d with
  | zero => intro i c _; rfl
  | succ d ih => intro i c h; rw [r_ch, r_ch, h i (by omega), ih _ _ (fun x hx => h x (by omega))]
theorem ch_none {P : Nat → Nat} {j n : Nat} (hp : ∀ x : Nat, 0 < x → x < n → P x < x) (hn : n ≤ 300) (hj : n ≤ j) (hj3 : j ≤ 300) : ∀ (d i c : Nat), i + d ≤ n → r_ch P j d i c = c := by
  intro d
  induction d with
  | zero => intro i c _; rfl
  | succ d ih =>
    intro i c h
    have e : ¬ pF P i = nI j := by
      unfold pF
      by_cases c0 : i = 0
      · rw [if_pos c0]
        intro q
        have h2 : (0 : Int32) ≤ nI j := nI_pos' (by omega)
        rw [← q] at h2
        exact absurd h2 (by decide)
      · rw [if_neg c0]
        intro q
        have := hp i (by omega) (by omega)
        have := n_eq q (by omega) (by omega)
        omega
    rw [r_ch, if_neg e]
    exact ih _ _ (by omega)
/-- the children when a block n comes to p -/
theorem ch_add {P Ch : Nat → Nat} {n p : Nat} (hp : ∀ x : Nat, 0 < x → x < n → P x < x) (hn0 : 0 < n) (hn : n < 300) (hpn : p < n) (hc : ∀ j, j < n → Ch j = r_ch P j n 0 0) (hz : ∀ j, n ≤ j → Ch j = 0) : ∀ j, j < n + 1 → updN Ch p (Ch p + 1) j = r_ch (updN P n p) j (n + 1) 0 0 := by
  intro j hj
  have ec : r_ch (updN P n p) j n 0 0 = r_ch P j n 0 0 := (ch_congr n 0 0 (fun x hx => by
    unfold pF
    by_cases c : x = 0
    · rw [if_pos c, if_pos c]
    · rw [if_neg c, if_neg c, updN_ne (by omega)])).symm
  rw [ch_snoc, ec, Nat.zero_add]
  have en : pF (updN P n p) n = nI p := by rw [pF_s hn0, updN_same]
  rw [en]
  rcases Nat.lt_or_ge j n with g | g
  · rw [← hc j g]
    by_cases c : j = p
    · subst c; rw [updN_same, if_pos rfl]
    · rw [updN_ne c, if_neg (fun q => c (n_eq q (by omega) (by omega)).symm)]; rfl
  · have ej : j = n := by omega
    subst ej
    rw [updN_ne (by omega), hz j (Nat.le_refl _), ch_none hp (by omega) (Nat.le_refl _) (by omega) j 0 0 (by omega), if_neg (fun q => by have := n_eq q (by omega) (by omega); omega)]
