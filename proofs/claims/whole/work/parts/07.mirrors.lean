/-! MIRRORS: what each method of the class answers, word for word, as functions. -/
def m_shift (b : Int64) : Int32 := nI 8 * ((j_ushr b (nI 24)).toInt32 - nI 3)
def m_join (x y : Int64) : Int64 := j_shl x (nI 32) ||| y
def m_byte (a b c d : Int64) (k : Int32) : Int64 := if 0 ≤ k then j_ushr (if nI 8 ≤ k then (if nI 16 ≤ k then (if nI 24 ≤ k then a else b) else c) else d) (nI 8 * (k - k / nI 8 * nI 8)) &&& 255 else 0
def m_nz (t k a : Int32) (p : Int32 × Int32) : Int32 × Int32 := if p.2 < t then p else (p.1 + a, j_iushr p.2 k)
def m_nlzi (i : Int32) : Int32 :=
  if 0 < i then (m_nz (nI 4) (nI 2) (-2) (m_nz (nI 16) (nI 4) (-4) (m_nz (nI 256) (nI 8) (-8) (m_nz (nI 65536) (nI 16) (-16) (nI 31, i))))).1 - j_iushr (m_nz (nI 4) (nI 2) (-2) (m_nz (nI 16) (nI 4) (-4) (m_nz (nI 256) (nI 8) (-8) (m_nz (nI 65536) (nI 16) (-16) (nI 31, i))))).2 (nI 1)
  else if i = 0 then nI 32 else nI 0
def m_nlz (x : Int64) : Int32 := if (j_ushr x (nI 32)).toInt32 = 0 then nI 32 + m_nlzi x.toInt32 else m_nlzi (j_ushr x (nI 32)).toInt32
def m_len (x : Int64) : Int32 := nI 64 - m_nlz x
def m_tp (b : Int64) (k : Int32) : Int64 :=
  if nI 64 ≤ m_shift b - nI 64 * (nI 3 - k) then 0 else if -64 < m_shift b - nI 64 * (nI 3 - k) then
    (if m_shift b - nI 64 * (nI 3 - k) < 0 then j_ushr (b &&& 8388607) (-(m_shift b - nI 64 * (nI 3 - k))) else j_shl (b &&& 8388607) (m_shift b - nI 64 * (nI 3 - k))) else 0
def m_th (b : Int64) (i : Nat) : Int64 := if i % 2 = 0 then j_ushr (m_tp b (nI (i / 2))) (nI 32) else m_tp b (nI (i / 2)) &&& 4294967295
def m_fault (b : Int64) : Int32 :=
  if b < 0 then -1 else if b ≤ 4294967295 then
    (if (b &&& 8388608 = 0) ∨ (b &&& 8388607 = 0) then
      (if (b &&& 8388607 = 0) ∨ (¬ 0 ≤ m_shift b ∧ j_ushr (b &&& 8388607) (-(m_shift b)) = 0) then nI 2
       else if m_shift b + m_len (b &&& 8388607) ≤ nI 256 then
         (if m_tp b (nI 0) < 0 then nI 4 else if m_tp b (nI 0) ≤ 9223370937343148032 then nI 0 else nI 4)
       else nI 3)
     else nI 1)
  else -1
def m_size (a b c d : Int64) : Nat → Nat
  | 0 => 0
  | k + 1 => if m_byte a b c d (nI k) = 0 then m_size a b c d k else k + 1
theorem m_size_s {a b c d : Int64} {k : Nat} (h : 0 < k) (e : m_byte a b c d (nI (k - 1)) = 0) : m_size a b c d (k - 1) = m_size a b c d k := by
  cases k with
  | zero => omega
  | succ k => rw [Nat.add_sub_cancel] at e ⊢; simp [m_size, e]
theorem m_size_e {a b c d : Int64} {k : Nat} (h : 0 < k) (e : ¬ m_byte a b c d (nI (k - 1)) = 0) : m_size a b c d k = k := by
  cases k with
  | zero => omega
  | succ k => rw [Nat.add_sub_cancel] at e; simp [m_size, e]
theorem m_size_0 {a b c d : Int64} {k : Nat} (h : k ≤ 0) : m_size a b c d k = k := by
  have : k = 0 := by omega
  subst this; rfl
def m_num (a b c d : Int64) (z : Nat) : Int64 := j_shl (j_shl (j_shl 0 (nI 8) ||| m_byte a b c d (nI z - nI 1)) (nI 8) ||| m_byte a b c d (nI z - nI 2)) (nI 8) ||| m_byte a b c d (nI z - nI 3)
def m_short (a b c d : Int64) : Int64 :=
  if m_num a b c d (m_size a b c d 32) &&& 8388608 = 0 then j_shl (nI (m_size a b c d 32)).toInt64 (nI 24) ||| m_num a b c d (m_size a b c d 32)
  else j_shl (nI (m_size a b c d 32 + 1)).toInt64 (nI 24) ||| j_ushr (m_num a b c d (m_size a b c d 32)) (nI 8)
def m_mulL (b t : Int64) : Nat → (Nat → Int64) → Int64 → (Nat → Int64)
  | 0, g, cy => vp_updL g 0 cy
  | k + 1, g, cy => m_mulL b t k (vp_updL g (k + 1) ((m_th b k * t + cy) &&& 4294967295)) (j_ushr (m_th b k * t + cy) (nI 32))
def m_mul (b t : Int64) (f : Nat → Int64) : Nat → Int64 := m_mulL b t 8 f 0
def m_divU : Nat → Nat → (Nat → Int64) → Int64 → (Nat → Int64)
  | 0, _, g, _ => g
  | d + 1, i, g, r => m_divU d (i + 1) (vp_updL g i (m_join r (g i) / 4800)) (m_join r (g i) - m_join r (g i) / 4800 * 4800)
def m_div (f : Nat → Int64) : Nat → Int64 := m_divU 9 0 f 0
def m_clamp (t : Int64) : Int64 := if (if t < 19200 then t else 19200) < 1200 then 1200 else (if t < 19200 then t else 19200)
def m_pr (b t : Int64) (f : Nat → Int64) : Nat → Int64 := m_div (m_mul b (m_clamp t) f)
def m_next (g : Nat → Int64) : Int64 :=
  if g 0 = 0 then (if m_join (g 1) (g 2) < 0 then 545259519 else if m_join (g 1) (g 2) < 9223370937343148032 then m_short (m_join (g 1) (g 2)) (m_join (g 3) (g 4)) (m_join (g 5) (g 6)) (m_join (g 7) (g 8)) else 545259519) else 545259519
def m_setL (b : Int64) : Nat → (Nat → Int64) → Int64 → (Nat → Int64)
  | 0, g, _ => g
  | k + 1, g, cy => m_setL b k (vp_updL g k ((m_th b k + cy) &&& 4294967295)) (j_ushr (m_th b k + cy) (nI 32))
def m_set (b : Int64) (f : Nat → Int64) : Nat → Int64 := m_setL b 8 f 1
def m_dlen (f : Nat → Int64) : Nat → Nat → Int32
  | 0, _ => nI 0
  | d + 1, i => if f i = 0 then m_dlen f d (i + 1) else nI (32 * (7 - i)) + m_len (f i)
def m_twL : Nat → (Nat → Int64) → Int64 → (Nat → Int64)
  | 0, g, _ => g
  | k + 1, g, cy => m_twL k (vp_updL g k ((j_shl (g k) (nI 1) ||| cy) &&& 4294967295)) (j_ushr (j_shl (g k) (nI 1) ||| cy) (nI 32))
def m_tw (f : Nat → Int64) (x : Int64) : Nat → Int64 := m_twL 8 f x
def m_hold (r d : Nat → Int64) : Nat → Nat → Int32
  | 0, _ => nI 1
  | n + 1, i => if r i = d i then m_hold r d n (i + 1) else if r i ≤ d i then nI 0 else nI 1
def m_subL (d : Nat → Int64) : Nat → (Nat → Int64) → Int64 → (Nat → Int64)
  | 0, g, _ => g
  | k + 1, g, bo => m_subL d k (vp_updL g k ((g k - d k - bo) &&& 4294967295)) (if 0 ≤ g k - d k - bo then 0 else 1)
def m_sub (r d : Nat → Int64) : Nat → Int64 := m_subL d 8 r 0
def m_fill (f : Nat → Int64) (n : Nat) (v : Int64) : Nat → Int64 := fun j => if j < n then v else f j
theorem m_fill_0 (f : Nat → Int64) (v : Int64) : m_fill f 0 v = f := by funext j; simp [m_fill]
theorem m_fill_s (f : Nat → Int64) (v : Int64) (i : Nat) : vp_updL (m_fill f i v) i v = m_fill f (i + 1) v := by
  funext j
  unfold vp_updL m_fill
  by_cases h : j = i
  · subst h; simp
  · by_cases h2 : j < i
    · have : j < i + 1 := by omega
      simp [h, h2, this]
    · have : ¬ j < i + 1 := by omega
      simp [h, h2, this]
def m_dvL (d : Nat → Int64) : Nat → (Nat → Int64) → (Nat → Int64) → (Nat → Int64) × (Nat → Int64)
  | 0, r, q => (r, q)
  | n + 1, r, q => if m_hold (m_tw r 0) d 8 0 = 0 then m_dvL d n (m_tw r 0) (m_tw q 0) else m_dvL d n (m_sub (m_tw r 0) d) (m_tw q 1)
def m_dv (d r q : Nat → Int64) (P : Nat) : (Nat → Int64) × (Nat → Int64) := m_dvL d (256 - P) (vp_updL (m_fill r 8 0) (7 - P / 32) (j_shl 1 (nI (P % 32)))) (m_fill q 8 0)
theorem dn_s {i : Int32} {k : Nat} (hi : i = nI k + (-1)) (c : ¬ i < 0) : ∃ j : Nat, k = j + 1 ∧ i = nI j := by
  cases k with
  | zero => exact absurd (by rw [hi]; decide) c
  | succ k => exact ⟨k, rfl, by rw [hi, pk_m1]⟩
theorem dn_0 {i : Int32} {k : Nat} (hi : i = nI k + (-1)) (c : i < 0) (hk : k < 2 ^ 31) : k = 0 := by
  cases k with
  | zero => rfl
  | succ k => rw [hi, pk_m1] at c; exact absurd c (nI_pos (by omega))
def nF (h : Nat → Nat) : Nat → Int32 := fun x => nI (h x)
def pF (h : Nat → Nat) : Nat → Int32 := fun x => if x = 0 then -1 else nI (h x)
def updN (h : Nat → Nat) (k v : Nat) : Nat → Nat := fun x => if x = k then v else h x
theorem pF_s {h : Nat → Nat} {x : Nat} (hx : 0 < x) : pF h x = nI (h x) := by unfold pF; rw [if_neg (by omega)]
theorem nF_u (h : Nat → Nat) (k v : Nat) : upd (nF h) k (nI v) = nF (updN h k v) := by
  funext x; unfold upd nF updN; by_cases e : x = k
  · rw [if_pos e, if_pos e]
  · rw [if_neg e, if_neg e]
theorem pF_u (h : Nat → Nat) {k : Nat} (v : Nat) (hk : 0 < k) : upd (pF h) k (nI v) = pF (updN h k v) := by
  funext x; unfold upd pF updN; by_cases e : x = k
  · subst e; rw [if_pos rfl, if_neg (by omega), if_pos rfl]
  · rw [if_neg e, if_neg e]
def m_cmp (W : Nat → Int64) (x y : Nat) : Nat → Nat → Int32
  | 0, _ => nI 0
  | d + 1, i => if W (x * 8 + i) = W (y * 8 + i) then m_cmp W x y d (i + 1) else if W (y * 8 + i) ≤ W (x * 8 + i) then nI 1 else -1
def m_anc (P : Nat → Nat) : Nat → Nat → Nat
  | 0, x => x
  | d + 1, x => if x = 0 then 0 else m_anc P d (P x)
theorem m_anc_s {P : Nat → Nat} {d x : Nat} (hd : 0 < d) (hx : 0 < x) : m_anc P (d - 1) (P x) = m_anc P d x := by
  cases d with
  | zero => omega
  | succ d => rw [Nat.add_sub_cancel, m_anc, if_neg (by omega)]
theorem m_anc_d {P : Nat → Nat} {d x : Nat} (hd : d ≤ 0) : m_anc P d x = x := by
  have : d = 0 := by omega
  subst this; rfl
theorem m_anc_0 {P : Nat → Nat} {d x : Nat} (hx : x ≤ 0) : m_anc P d x = x := by
  have : x = 0 := by omega
  subst this
  cases d with
  | zero => rfl
  | succ d => rw [m_anc, if_pos rfl]
def m_fork (P : Nat → Nat) : Nat → Nat → Nat → Nat
  | 0, u, _ => u
  | d + 1, u, v => if u = v then u else if u ≤ v then m_fork P d u (P v) else m_fork P d (P u) v
theorem m_fork_l {P : Nat → Nat} {d u v : Nat} (hd : 0 < d) (h : v < u) : m_fork P (d - 1) (P u) v = m_fork P d u v := by
  cases d with
  | zero => omega
  | succ d => rw [Nat.add_sub_cancel, m_fork, if_neg (by omega), if_neg (by omega)]
theorem m_fork_r {P : Nat → Nat} {d u v : Nat} (hd : 0 < d) (h : u ≤ v) (hn : ¬ u = v) : m_fork P (d - 1) u (P v) = m_fork P d u v := by
  cases d with
  | zero => omega
  | succ d => rw [Nat.add_sub_cancel, m_fork, if_neg hn, if_pos h]
theorem m_fork_0 {P : Nat → Nat} {d u v : Nat} (hd : d ≤ 0) : m_fork P d u v = u := by
  have : d = 0 := by omega
  subst this; rfl
theorem m_fork_e {P : Nat → Nat} {d u v : Nat} (h : u = v) : m_fork P d u v = u := by
  cases d with
  | zero => rfl
  | succ d => rw [m_fork, if_pos h]
def m_target (b : Int64) (k : Int32) : Int64 := if m_fault b = 0 ∨ m_fault b = nI 4 then (if k < 0 then 0 else if nI 4 ≤ k then 0 else m_tp b k) else 0
def m_best (Z : Nat → Nat) (W : Nat → Int64) : Nat → Nat → Nat → Nat
  | 0, _, x => x
  | d + 1, i, x => if Z i = 0 then (if m_cmp W i x 8 0 ≤ 0 then m_best Z W d (i + 1) x else m_best Z W d (i + 1) i) else m_best Z W d (i + 1) x
theorem mx_0 {a : Nat} (h : a < 2 ^ 31) : (if nI 0 < nI a then nI a else nI 0) = nI a := by
  by_cases h0 : a = 0
  · subst h0; simp
  · rw [if_pos (nI_lt (by omega) h)]
def m_row : Nat → Nat → Nat → Nat → Option Nat
  | 0, hh, _, _ => some hh
  | d + 1, hh, st, i => if hh = 0 then none else if i ≤ 9 then m_row d (hh - st) st (i + 1) else m_row d (hh - st * 2) (st * 2) (i + 1)
def m_rowR (P Hh : Nat → Nat) (j : Nat) : Option Nat → Int32
  | none => -1
  | some h => nI (m_anc P (Hh j - h) j)
theorem mx_s {a b : Nat} (ha : a < 2 ^ 30) (hb : b < 2 ^ 30) : (if nI 0 < nI a - nI b then nI a - nI b else nI 0) = nI (a - b) := by
  by_cases h : b ≤ a
  · rw [pk_sub h]; exact mx_0 (by omega)
  · have h1 : nI a - nI b < 0 := pk_sneg hb (by omega)
    have h2 : a - b = 0 := by omega
    rw [if_neg, h2]
    intro h3
    rw [nI_0] at h3
    rw [Int32.lt_iff_toInt_lt] at h1 h3
    omega
def m_rank (t : Int64) : Nat → (Nat → Int64) → (Nat → Int64)
  | 0, g => vp_updL g 0 t
  | k + 1, g => if g k ≤ t then vp_updL g (k + 1) t else m_rank t k (vp_updL g (k + 1) (g k))
def m_pn (P : Nat → Nat) (x : Nat) : Nat := if x = 0 then 0 else P x + 1
theorem m_pn_I (P : Nat → Nat) (x : Nat) : pF P x = nI (m_pn P x) + (-1) := by
  unfold pF m_pn
  by_cases h : x = 0
  · rw [if_pos h, if_pos h]; decide
  · rw [if_neg h, if_neg h, pk_m1]
def m_med (P : Nat → Nat) (T : Nat → Int64) : Nat → Nat → Nat → (Nat → Int64) → (Nat → Int64) × Nat
  | 0, c, _, g => (g, c)
  | _ + 1, c, 0, g => (g, c)
  | d + 1, c, x + 1, g => m_med P T d (c + 1) (m_pn P x) (m_rank (T x) c g)
def m_sumL (F : Nat → Int64) (x y : Nat) : Nat → (Nat → Int64) → Int64 → (Nat → Int64)
  | 0, g, _ => g
  | k + 1, g, cy => m_sumL F x y k (vp_updL g (x * 8 + k) ((g (y * 8 + k) + F k + cy) &&& 4294967295)) (j_ushr (g (y * 8 + k) + F k + cy) (nI 32))
def m_sum (F : Nat → Int64) (x y : Nat) (g : Nat → Int64) : Nat → Int64 := m_sumL F x y 8 g 0
def m_spb (P : Nat → Nat) : Nat → Nat → Nat → (Nat → Nat) → (Nat → Nat) × Nat
  | 0, _, s, z => (z, s)
  | d + 1, i, s, z => if z i = 0 then (if z (P i) = 0 then m_spb P d (i + 1) s z else m_spb P d (i + 1) (s + 1) (updN z i 1)) else m_spb P d (i + 1) s z
theorem updN_2 {z : Nat → Nat} {i : Nat} (h : ∀ x : Nat, z x < 2) : ∀ x : Nat, updN z i 1 x < 2 := by
  intro x; unfold updN; by_cases e : x = i
  · rw [if_pos e]; omega
  · rw [if_neg e]; exact h x
theorem m_pn_le {P : Nat → Nat} {n x : Nat} (hp : ∀ x : Nat, 0 < x → x < n → P x < x) (hx : x < n) : m_pn P x ≤ n := by
  unfold m_pn; by_cases e : x = 0
  · rw [if_pos e]; omega
  · rw [if_neg e]; have := hp x (by omega) hx; omega
theorem m_anc_lt {P : Nat → Nat} {n : Nat} (hp : ∀ x : Nat, 0 < x → x < n → P x < x) : ∀ {d x : Nat}, x < n → m_anc P d x < n := by
  intro d
  induction d with
  | zero => intro x hx; exact hx
  | succ d ih =>
    intro x hx
    rw [m_anc]
    by_cases e : x = 0
    · rw [if_pos e]; omega
    · rw [if_neg e]; exact ih (by have := hp x (by omega) hx; omega)
theorem m_spb_2 {P : Nat → Nat} : ∀ {d i s : Nat} {z : Nat → Nat}, (∀ x : Nat, z x < 2) → ∀ x : Nat, (m_spb P d i s z).1 x < 2 := by
  intro d
  induction d with
  | zero => intro i s z hz x; exact hz x
  | succ d ih =>
    intro i s z hz x
    rw [m_spb]
    by_cases h : z i = 0
    · rw [if_pos h]
      by_cases h2 : z (P i) = 0
      · rw [if_pos h2]; exact ih hz x
      · rw [if_neg h2]; exact ih (updN_2 hz) x
    · rw [if_neg h]; exact ih hz x
