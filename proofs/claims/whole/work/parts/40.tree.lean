/-! THE TREE: class and reference -/
theorem sV_shf {S : Nat → Nat} {b : Nat} : ∀ {d i : Nat}, sV S (b + i) d = sV (shf S b) i d := by
  intro d
  induction d with
  | zero => intro i; rfl
  | succ d ih => intro i; rw [sV, sV, ← ih (i := i + 1)]; rfl
theorem by8_shf {S : Nat → Nat} {b : Nat} (h : by8 S) : by8 (shf S b) := fun i => h _
/-- one number in both: of block x -/
def vEq (w : Nat → Nat) (S : Nat → Nat) (x : Nat) : Prop := vV (fun k => w (x * 8 + k)) 8 = sV (shf S (40 * x)) 0 40
theorem cmp_eq {W : Nat → Int64} {w S : Nat → Nat} {m x y : Nat} (lw : lim W w m) (h8 : by8 S) (hx : x * 8 + 8 ≤ m) (hy : y * 8 + 8 ≤ m) (ex : vEq w S x) (ey : vEq w S y) : m_cmp W x y 8 0 = r_cmp (shf S (40 * x)) (shf S (40 * y)) 40 0 (nI 0) := by
  rw [cmpc_V lw 8 0 (by omega) (by omega), cmp_V (by8_shf h8) (by8_shf h8), vT_0 ex, vT_0 ey]
theorem work_eq {W : Nat → Int64} {w S : Nat → Nat} {m x k : Nat} (lw : lim W w m) (h8 : by8 S) (hx : x * 8 + 8 ≤ m) (hk : k < 4) (ex : vEq w S x) : m_join (W (x * 8 + 2 * k)) (W (x * 8 + 2 * k + 1)) = lN (r_lo S (40 * x + 8 * (3 - k)) 8 0) := by
  have l2 : lim (fun i => W (x * 8 + i)) (fun i => w (x * 8 + i)) 8 := fun i hi => lw (x * 8 + i) (by omega)
  have j := lim_join l2 ex (i := 2 * k) (by omega)
  have e1 : m_join (W (x * 8 + 2 * k)) (W (x * 8 + 2 * k + 1)) = m_join ((fun i => W (x * 8 + i)) (2 * k)) ((fun i => W (x * 8 + i)) (2 * k + 1)) := rfl
  rw [e1, j, lo_V, Nat.zero_mul, Nat.zero_add, sV_shf]
  have d : ∀ n, n = 40 → sV (shf S (40 * x)) (8 * (3 - k)) 8 = sV (shf S (40 * x)) 0 n / 256 ^ (8 * (3 - k)) % 256 ^ 8 := by
    intro n hn
    exact sV_dig (fun q _ h2 => by have := sV_get (by8_shf (b := 40 * x) h8) (d := n) (i := 0) (k := q) (by omega); rw [Nat.zero_add] at this; exact this)
  rw [d 40 rfl]
  have e2 : (4294967296 : Nat) ^ (8 - 2 - 2 * k) = 256 ^ (8 * (3 - k)) := by
    rw [show (4294967296 : Nat) = 2 ^ 32 from rfl, show (256 : Nat) = 2 ^ 8 from rfl, ← Nat.pow_mul, ← Nat.pow_mul]; congr 1; omega
  have e3 : (18446744073709551616 : Nat) = 256 ^ 8 := by decide
  rw [e2, e3]
theorem tip_eq {Z : Nat → Nat} {W : Nat → Int64} {w S : Nat → Nat} {m n : Nat} (lw : lim W w m) (h8 : by8 S) (hn : n * 8 ≤ m) (ev : ∀ x, x < n → vEq w S x) : ∀ (d i x : Nat), i + d = n → x < n → m_best Z W d i x = r_tip Z S d i x := by
  intro d
  induction d with
  | zero => intro i x _ _; rfl
  | succ d ih =>
    intro i x hi hx
    rw [m_best, r_tip, cmp_eq lw h8 (by omega) (by omega) (ev i (by omega)) (ev x hx), ih (i + 1) x (by omega) hx, ih (i + 1) i (by omega) (by omega)]
theorem best_snoc {Z : Nat → Nat} {W : Nat → Int64} : ∀ (d i x : Nat), m_best Z W (d + 1) i x = if Z (i + d) = 0 then (if m_cmp W (i + d) (m_best Z W d i x) 8 0 ≤ 0 then m_best Z W d i x else i + d) else m_best Z W d i x := by
  intro d
  induction d with
  | zero => intro i x; rfl
  | succ d ih =>
    intro i x
    have e : m_best Z W (d + 1 + 1) i x = if Z i = 0 then (if m_cmp W i x 8 0 ≤ 0 then m_best Z W (d + 1) (i + 1) x else m_best Z W (d + 1) (i + 1) i) else m_best Z W (d + 1) (i + 1) x := rfl
    have e2 : m_best Z W (d + 1) i x = if Z i = 0 then (if m_cmp W i x 8 0 ≤ 0 then m_best Z W d (i + 1) x else m_best Z W d (i + 1) i) else m_best Z W d (i + 1) x := rfl
    rw [e, e2, ih, ih, show i + 1 + d = i + (d + 1) by omega]
    by_cases c : Z i = 0
    · rw [if_pos c, if_pos c]
      by_cases c2 : m_cmp W i x 8 0 ≤ 0
      · rw [if_pos c2, if_pos c2]
      · rw [if_neg c2, if_neg c2]
    · rw [if_neg c, if_neg c]
theorem best_congr {Z : Nat → Nat} {W W' : Nat → Int64} {n : Nat} (hc : ∀ x y, x < n → y < n → m_cmp W x y 8 0 = m_cmp W' x y 8 0) : ∀ (d i x : Nat), i + d ≤ n → x < n → m_best Z W d i x = m_best Z W' d i x := by
  intro d
  induction d with
  | zero => intro i x _ _; rfl
  | succ d ih =>
    intro i x hi hx
    rw [m_best, m_best, hc i x (by omega) hx, ih (i + 1) x (by omega) hx, ih (i + 1) i (by omega) (by omega)]
/-- what the best one is -/
def isBest (Z : Nat → Nat) (val : Nat → Nat) (n y : Nat) : Prop := y < n ∧ Z y = 0 ∧ ∀ i, i < n → Z i = 0 → val i ≤ val y ∧ (i < y → val i < val y)
theorem isBest_u {Z : Nat → Nat} {val : Nat → Nat} {n y y' : Nat} (h : isBest Z val n y) (h' : isBest Z val n y') : y = y' := by
  obtain ⟨a1, a2, a3⟩ := h
  obtain ⟨b1, b2, b3⟩ := h'
  have q1 := a3 y' b1 b2
  have q2 := b3 y a1 a2
  rcases Nat.lt_trichotomy y y' with g | g | g
  · have := q2.2 g; omega
  · exact g
  · have := q1.2 g; omega
theorem best_is {Z : Nat → Nat} {W : Nat → Int64} {val : Nat → Nat} {n : Nat} (hz : Z 0 = 0) (hc : ∀ x y, x < n → y < n → (m_cmp W x y 8 0 ≤ 0 ↔ val x ≤ val y)) : ∀ (d : Nat), d + 1 ≤ n → isBest Z val (d + 1) (m_best Z W d 1 0) := by
  intro d
  induction d with
  | zero => intro _; exact ⟨by show 0 < 1; omega, hz, fun i hi _ => by rw [show i = 0 by omega]; exact ⟨Nat.le_refl _, fun h => absurd h (Nat.lt_irrefl _)⟩⟩
  | succ d ih =>
    intro hd
    obtain ⟨a1, a2, a3⟩ := ih (by omega)
    rw [best_snoc]
    generalize m_best Z W d 1 0 = y at *
    rw [show 1 + d = d + 1 by omega]
    by_cases c : Z (d + 1) = 0
    · rw [if_pos c]
      have hcc := hc (d + 1) y (by omega) (by omega)
      by_cases c2 : m_cmp W (d + 1) y 8 0 ≤ 0
      · rw [if_pos c2]
        have := hcc.mp c2
        refine ⟨by omega, a2, fun i hi hzi => ?_⟩
        rcases Nat.lt_or_ge i (d + 1) with g | g
        · exact a3 i g hzi
        · rw [show i = d + 1 by omega]; exact ⟨this, fun h => by omega⟩
      · rw [if_neg c2]
        have : ¬ val (d + 1) ≤ val y := fun h => c2 (hcc.mpr h)
        refine ⟨by omega, c, fun i hi hzi => ?_⟩
        rcases Nat.lt_or_ge i (d + 1) with g | g
        · have := (a3 i g hzi).1; exact ⟨by omega, fun _ => by omega⟩
        · rw [show i = d + 1 by omega]; exact ⟨Nat.le_refl _, fun h => absurd h (Nat.lt_irrefl _)⟩
    · rw [if_neg c]
      refine ⟨by omega, a2, fun i hi hzi => ?_⟩
      rcases Nat.lt_or_ge i (d + 1) with g | g
      · exact a3 i g hzi
      · rw [show i = d + 1 by omega] at hzi; exact absurd hzi c
theorem best_stays {Z Z' : Nat → Nat} {W : Nat → Int64} {val : Nat → Nat} {n : Nat} (hn : 1 ≤ n) (hz : Z 0 = 0) (hz' : Z' 0 = 0) (hc : ∀ x y, x < n → y < n → (m_cmp W x y 8 0 ≤ 0 ↔ val x ≤ val y)) (hs : ∀ i, i < n → Z' i = 0 → Z i = 0) (hb : Z' (m_best Z W (n - 1) 1 0) = 0) : m_best Z' W (n - 1) 1 0 = m_best Z W (n - 1) 1 0 := by
  obtain ⟨a1, a2, a3⟩ := best_is hz hc (n - 1) (by omega)
  have b := best_is hz' hc (n - 1) (by omega)
  exact (isBest_u ⟨a1, hb, fun i hi hzi => a3 i hi (hs i (by omega) hzi)⟩ b).symm
/-- descent -/
theorem dsc_rec {P Hh : Nat → Nat} {n : Nat} (hp : ∀ x : Nat, 0 < x → x < n → P x < x) (h0 : Hh 0 = 0) (hs : ∀ x : Nat, 0 < x → x < n → Hh x = Hh (P x) + 1) {i j : Nat} (hi : i < n) (hn : n ≤ 300) (hj : j < n) (hi0 : 0 < i) (hij : ¬ i = j) : r_bel P Hh i (Hh j) = nI j ↔ r_bel P Hh (P i) (Hh j) = nI j := by
  have e := hs i hi0 hi
  have e2 := hp i hi0 hi
  unfold r_bel
  rcases Nat.lt_trichotomy (Hh j) (Hh i) with g | g | g
  · rw [if_pos (by omega), if_pos (by omega), show Hh (P i) - Hh j = (Hh i - Hh j) - 1 by omega, m_anc_s (by omega) hi0]
  · rw [if_pos (by omega), if_neg (by omega), show Hh i - Hh j = 0 by omega]
    constructor
    · intro q
      have q' : nI i = nI j := q
      exact absurd (n_eq q' (by omega) (by omega)) hij
    · intro q
      have : (-1 : Int32) = nI j := q
      have h2 : (0 : Int32) ≤ nI j := nI_pos' (by omega)
      rw [← this] at h2
      exact absurd h2 (by decide)
  · rw [if_neg (by omega), if_neg (by omega)]
theorem dsc_le {P Hh : Nat → Nat} {n : Nat} (hp : ∀ x : Nat, 0 < x → x < n → P x < x) {i j : Nat} (hi : i < n) (hn : n ≤ 300) (hj : j < n) (h : r_bel P Hh i (Hh j) = nI j) : j ≤ i := by
  unfold r_bel at h
  have key : ∀ {d x : Nat}, x < n → m_anc P d x ≤ x := by
    intro d
    induction d with
    | zero => intro x _; exact Nat.le_refl _
    | succ d ih =>
      intro x hx
      rw [m_anc]
      by_cases e : x = 0
      · rw [if_pos e]; omega
      · rw [if_neg e]
        have q := hp x (by omega) hx
        have := ih (x := P x) (by omega)
        omega
  by_cases c : Hh j ≤ Hh i
  · rw [if_pos c] at h
    have k := key (d := Hh i - Hh j) hi
    have := n_eq h (by omega) (by omega)
    omega
  · rw [if_neg c] at h
    have h2 : (0 : Int32) ≤ nI j := nI_pos' (by omega)
    rw [← h] at h2
    exact absurd h2 (by decide)
theorem dsc_self {P Hh : Nat → Nat} {j : Nat} : r_bel P Hh j (Hh j) = nI j := by
  unfold r_bel; rw [if_pos (Nat.le_refl _), Nat.sub_self]; rfl
/-- what is bad when the blocks below i have been seen -/
def Gz (P Hh Zb : Nat → Nat) (j i : Nat) : Nat → Nat := fun x => if x < i ∧ Zb x = 0 ∧ r_bel P Hh x (Hh j) = nI j then 1 else Zb x
def Gc (P Hh Zb : Nat → Nat) (j : Nat) : Nat → Nat → Nat
  | _, 0 => 0
  | i, d + 1 => (if Zb i = 0 ∧ r_bel P Hh i (Hh j) = nI j then 1 else 0) + Gc P Hh Zb j (i + 1) d
theorem Gz_at {P Hh Zb : Nat → Nat} {j i : Nat} : Gz P Hh Zb j i i = Zb i := by unfold Gz; rw [if_neg (by omega)]
theorem Gz_mark {P Hh Zb : Nat → Nat} {j i : Nat} (h1 : Zb i = 0) (h2 : r_bel P Hh i (Hh j) = nI j) : updN (Gz P Hh Zb j i) i 1 = Gz P Hh Zb j (i + 1) := by
  funext x; unfold updN Gz
  by_cases e : x = i
  · subst e; rw [if_pos rfl, if_pos ⟨by omega, h1, h2⟩]
  · rw [if_neg e]
    by_cases c : x < i ∧ Zb x = 0 ∧ r_bel P Hh x (Hh j) = nI j
    · rw [if_pos c, if_pos ⟨by omega, c.2⟩]
    · rw [if_neg c, if_neg (fun q => c ⟨by omega, q.2⟩)]
theorem Gz_skip {P Hh Zb : Nat → Nat} {j i : Nat} (h : ¬ (Zb i = 0 ∧ r_bel P Hh i (Hh j) = nI j)) : Gz P Hh Zb j i = Gz P Hh Zb j (i + 1) := by
  funext x; unfold Gz
  by_cases c : x < i ∧ Zb x = 0 ∧ r_bel P Hh x (Hh j) = nI j
  · rw [if_pos c, if_pos ⟨by omega, c.2⟩]
  · rw [if_neg c, if_neg (fun q => by
      rcases Nat.lt_or_ge x i with g | g
      · exact c ⟨g, q.2⟩
      · rw [show x = i by omega] at q; exact h q.2)]
theorem gone_V {P Hh Zb : Nat → Nat} {j : Nat} : ∀ (d i s : Nat), r_gone P Hh j d i s (Gz P Hh Zb j i) = (Gz P Hh Zb j (i + d), s + Gc P Hh Zb j i d) := by
  intro d
  induction d with
  | zero => intro i s; rfl
  | succ d ih =>
    intro i s
    rw [r_gone, Gz_at, Gc, show i + (d + 1) = i + 1 + d by omega]
    by_cases c : Zb i = 0
    · rw [if_pos c]
      by_cases c2 : r_bel P Hh i (Hh j) = nI j
      · rw [if_pos c2, Gz_mark c c2, ih, if_pos ⟨c, c2⟩, show s + 1 + Gc P Hh Zb j (i + 1) d = s + (1 + Gc P Hh Zb j (i + 1) d) by omega]
      · rw [if_neg c2, Gz_skip (fun q => c2 q.2), ih, if_neg (fun q => c2 q.2), Nat.zero_add]
    · rw [if_neg c, Gz_skip (fun q => c q.1), ih, if_neg (fun q => c q.1), Nat.zero_add]
theorem spb_V {P Hh Zb : Nat → Nat} {n : Nat} (hp : ∀ x : Nat, 0 < x → x < n → P x < x) (h0 : Hh 0 = 0) (hs : ∀ x : Nat, 0 < x → x < n → Hh x = Hh (P x) + 1) (hn : n ≤ 300) {j : Nat} (hj : j < n) (hcl : ∀ x, 0 < x → x < n → ¬ Zb (P x) = 0 → ¬ Zb x = 0) : ∀ (d i s : Nat), j < i → i + d = n → m_spb P d i s (Gz P Hh Zb j i) = (Gz P Hh Zb j (i + d), s + Gc P Hh Zb j i d) := by
  intro d
  induction d with
  | zero => intro i s _ _; rfl
  | succ d ih =>
    intro i s hi hd
    have hpi := hp i (by omega) (by omega)
    have hd2 := dsc_rec hp h0 hs (i := i) (j := j) (by omega) hn hj (by omega) (by omega)
    rw [m_spb, Gz_at, Gc, show i + (d + 1) = i + 1 + d by omega]
    by_cases c : Zb i = 0
    · rw [if_pos c]
      have hP0 : Zb (P i) = 0 := by
        rcases Classical.em (Zb (P i) = 0) with q | q
        · exact q
        · exact absurd c (hcl i (by omega) (by omega) q)
      have hG : Gz P Hh Zb j i (P i) = 0 ↔ ¬ r_bel P Hh i (Hh j) = nI j := by
        rw [hd2]
        unfold Gz
        by_cases q : r_bel P Hh (P i) (Hh j) = nI j
        · rw [if_pos ⟨hpi, hP0, q⟩]; exact ⟨fun h => by omega, fun h => absurd q h⟩
        · rw [if_neg (fun z => q z.2.2)]; exact ⟨fun _ => q, fun _ => hP0⟩
      by_cases c2 : r_bel P Hh i (Hh j) = nI j
      · rw [if_neg (fun z => hG.mp z c2), Gz_mark c c2, ih _ _ (by omega) (by omega), if_pos ⟨c, c2⟩, show s + 1 + Gc P Hh Zb j (i + 1) d = s + (1 + Gc P Hh Zb j (i + 1) d) by omega]
      · rw [if_pos (hG.mpr c2), Gz_skip (fun q => c2 q.2), ih _ _ (by omega) (by omega), if_neg (fun q => c2 q.2), Nat.zero_add]
    · rw [if_neg c, Gz_skip (fun q => c q.1), ih _ _ (by omega) (by omega), if_neg (fun q => c q.1), Nat.zero_add]
theorem Gc_split {P Hh Zb : Nat → Nat} {j : Nat} : ∀ {a i b : Nat}, Gc P Hh Zb j i (a + b) = Gc P Hh Zb j i a + Gc P Hh Zb j (i + a) b := by
  intro a
  induction a with
  | zero => intro i b; rw [Nat.zero_add, Gc, Nat.zero_add, Nat.add_zero]
  | succ a ih => intro i b; rw [show a + 1 + b = (a + b) + 1 by omega, Gc, ih, Gc, show i + 1 + a = i + (a + 1) by omega]; omega
theorem Gc_0 {P Hh Zb : Nat → Nat} {j : Nat} : ∀ {d i : Nat}, (∀ x, i ≤ x → x < i + d → ¬ r_bel P Hh x (Hh j) = nI j) → Gc P Hh Zb j i d = 0 := by
  intro d
  induction d with
  | zero => intro i _; rfl
  | succ d ih => intro i h; rw [Gc, if_neg (fun q => h i (by omega) (by omega) q.2), ih (fun x a b => h x (by omega) (by omega))]
/-- PROMISE 3, class and reference -/
theorem spoil_eq {P Hh Zb : Nat → Nat} {n : Nat} (hp : ∀ x : Nat, 0 < x → x < n → P x < x) (h0 : Hh 0 = 0) (hs : ∀ x : Nat, 0 < x → x < n → Hh x = Hh (P x) + 1) (hn : n ≤ 300) {j : Nat} (hj : j < n) (hj0 : 0 < j) (hz : Zb j = 0) (hcl : ∀ x, 0 < x → x < n → ¬ Zb (P x) = 0 → ¬ Zb x = 0) :
    (m_spb P (n - (j + 1)) (j + 1) 0 (updN Zb j 1)).1 = (r_gone P Hh j n 0 0 Zb).1 ∧ 1 + (m_spb P (n - (j + 1)) (j + 1) 0 (updN Zb j 1)).2 = (r_gone P Hh j n 0 0 Zb).2 ∧ (r_gone P Hh j n 0 0 Zb).1 = Gz P Hh Zb j n := by
  have nd : ∀ x, x < j → ¬ r_bel P Hh x (Hh j) = nI j := fun x hx q => by have := dsc_le hp (i := x) (by omega) hn hj q; omega
  have e1 : Gz P Hh Zb j 0 = Zb := by funext x; unfold Gz; rw [if_neg (by omega)]
  have e2 : Gz P Hh Zb j (j + 1) = updN Zb j 1 := by
    funext x; unfold Gz updN
    by_cases e : x = j
    · subst e; rw [if_pos rfl, if_pos ⟨by omega, hz, dsc_self⟩]
    · rw [if_neg e, if_neg (fun q => nd x (by omega) q.2.2)]
  have g := gone_V (P := P) (Hh := Hh) (Zb := Zb) (j := j) n 0 0
  have s := spb_V (Zb := Zb) hp h0 hs hn hj hcl (n - (j + 1)) (j + 1) 0 (by omega) (by omega)
  rw [e1, Nat.zero_add, Nat.zero_add] at g
  rw [e2, show j + 1 + (n - (j + 1)) = n by omega, Nat.zero_add] at s
  rw [g, s]
  refine ⟨rfl, ?_, rfl⟩
  show 1 + Gc P Hh Zb j (j + 1) (n - (j + 1)) = Gc P Hh Zb j 0 n
  have q := Gc_split (P := P) (Hh := Hh) (Zb := Zb) (j := j) (a := j + 1) (i := 0) (b := n - (j + 1))
  have q2 := Gc_split (P := P) (Hh := Hh) (Zb := Zb) (j := j) (a := j) (i := 0) (b := 1)
  have q0 : Gc P Hh Zb j 0 j = 0 := Gc_0 (fun x _ h => nd x (by omega))
  rw [q0, Nat.zero_add, Nat.zero_add] at q2
  have q3 : Gc P Hh Zb j j 1 = 1 := by rw [Gc, if_pos ⟨hz, dsc_self⟩, Gc]
  rw [show j + 1 + (n - (j + 1)) = n by omega, Nat.zero_add, q2, q3] at q
  exact q.symm
