theorem cW {l : Launch} {y : MethodName} {ws0 : List Cond} {rmm : Room} {D : va_G} {cI cJ cZ : ClassId} {av : List Value} {wc wc' : va_W} {r : Value} {ad : Nat → Nat} {rm n tp : Nat} {P Hh Ch : Nat → Nat} {Tm Bt : Nat → Int64} {Zb val : Nat → Nat} {Wk Rk pr : Nat → Int64} {kn : Int64} {fd fr fq : Nat → Int64} {n' tp' : Nat} {P' Hh' : Nat → Nat} {Tm' Bt' : Nat → Int64} {Zb' val' : Nat → Nat} (Ch' : Nat → Nat) (Wk' Rk' pr' : Nat → Int64) (kn' : Int64) (fd' fr' fq' : Nat → Int64)
    (h : rw_C l y ws0 rmm D vwCl (gT cI cJ cZ) av wc (fun v9 w9 => v9 = some r ∧ w9 = wc') 0 0) (isC isR perm : List Nat)
    (a1 : isC.map (fun i => (TDW cI cJ cZ ad rm n tp P Hh Ch Tm Bt Zb Wk Rk pr kn fd fr fq)[i]?) = wc.map some) (a2 : isC.filterMap (fun i => (TDW cI cJ cZ ad rm n tp P Hh Ch Tm Bt Zb Wk Rk pr kn fd fr fq)[i]?) = wc) (a3 : isR.map (fun i => (TDW cI cJ cZ ad rm n tp P Hh Ch Tm Bt Zb Wk Rk pr kn fd fr fq)[i]?) = (isR.filterMap (fun i => (TDW cI cJ cZ ad rm n tp P Hh Ch Tm Bt Zb Wk Rk pr kn fd fr fq)[i]?)).map some) (a4 : va_nd isR = true) (a5 : va_nd isC = true) (a6 : va_nd perm = true) (a7 : ∀ i ∈ isR, i ∉ isC)
    (a8 : perm.filterMap (fun i => ((isR.filterMap (fun i => (TDW cI cJ cZ ad rm n tp P Hh Ch Tm Bt Zb Wk Rk pr kn fd fr fq)[i]?)) ++ wc')[i]?) = (TDW cI cJ cZ ad rm n' tp' P' Hh' Ch' Tm' Bt' Zb' Wk' Rk' pr' kn' fd' fr' fq')) (a9 : perm.map (fun i => ((isR.filterMap (fun i => (TDW cI cJ cZ ad rm n tp P Hh Ch Tm Bt Zb Wk Rk pr kn fd fr fq)[i]?)) ++ wc')[i]?) = List.map some (TDW cI cJ cZ ad rm n' tp' P' Hh' Ch' Tm' Bt' Zb' Wk' Rk' pr' kn' fd' fr' fq')) (hi : InvC rm n' P' Ch' Wk' pr' kn' fd' fq' val') :
    rw_C l y ws0 rmm D vwCl (gT cI cJ cZ) av (TDW cI cJ cZ ad rm n tp P Hh Ch Tm Bt Zb Wk Rk pr kn fd fr fq) (CPost cI cJ cZ ad rm r n' tp' P' Hh' Tm' Bt' Zb' val') 0 0 :=
  rw_lift h isC isR perm a1 a2 a3 a4 a5 a6 a7 (fun v w1 q => ⟨(TDW cI cJ cZ ad rm n' tp' P' Hh' Ch' Tm' Bt' Zb' Wk' Rk' pr' kn' fd' fr' fq'), ⟨q.1, Ch', Wk', Rk', pr', kn', fd', fr', fq', hi, rfl⟩, by rw [q.2]; exact a8, by rw [q.2]; exact a9⟩)

theorem mW {l : Launch} {y : MethodName} {ws0 : List Cond} {rmm : Room} {D : va_G} {cI cJ cZ : ClassId} {av : List Value} {wc wc' : va_W} {r : Value} {ae : Nat → Nat} {rm n : Nat} {P Hh : Nat → Nat} {Tm Bt : Nat → Int64} {Zb Sm α β γ val : Nat → Nat} {Rk2 : Nat → Int64} {n' : Nat} {P' Hh' : Nat → Nat} {Tm' Bt' : Nat → Int64} {Zb' val' : Nat → Nat} (Sm' α' β' γ' : Nat → Nat) (Rk2' : Nat → Int64)
    (h : rw_C l y ws0 rmm D vwCl (gT cI cJ cZ) av wc (fun v9 w9 => v9 = some r ∧ w9 = wc') 0 0) (isC isR perm : List Nat)
    (a1 : isC.map (fun i => (MDW cI cJ cZ ae rm n P Hh Tm Bt Zb Sm α β γ Rk2)[i]?) = wc.map some) (a2 : isC.filterMap (fun i => (MDW cI cJ cZ ae rm n P Hh Tm Bt Zb Sm α β γ Rk2)[i]?) = wc) (a3 : isR.map (fun i => (MDW cI cJ cZ ae rm n P Hh Tm Bt Zb Sm α β γ Rk2)[i]?) = (isR.filterMap (fun i => (MDW cI cJ cZ ae rm n P Hh Tm Bt Zb Sm α β γ Rk2)[i]?)).map some) (a4 : va_nd isR = true) (a5 : va_nd isC = true) (a6 : va_nd perm = true) (a7 : ∀ i ∈ isR, i ∉ isC)
    (a8 : perm.filterMap (fun i => ((isR.filterMap (fun i => (MDW cI cJ cZ ae rm n P Hh Tm Bt Zb Sm α β γ Rk2)[i]?)) ++ wc')[i]?) = (MDW cI cJ cZ ae rm n' P' Hh' Tm' Bt' Zb' Sm' α' β' γ' Rk2')) (a9 : perm.map (fun i => ((isR.filterMap (fun i => (MDW cI cJ cZ ae rm n P Hh Tm Bt Zb Sm α β γ Rk2)[i]?)) ++ wc')[i]?) = List.map some (MDW cI cJ cZ ae rm n' P' Hh' Tm' Bt' Zb' Sm' α' β' γ' Rk2')) (hi : InvM n' Sm' α' β' γ' val') :
    rw_C l y ws0 rmm D vwCl (gT cI cJ cZ) av (MDW cI cJ cZ ae rm n P Hh Tm Bt Zb Sm α β γ Rk2) (MPost cI cJ cZ ae rm r n' P' Hh' Tm' Bt' Zb' val') 0 0 :=
  rw_lift h isC isR perm a1 a2 a3 a4 a5 a6 a7 (fun v w1 q => ⟨(MDW cI cJ cZ ae rm n' P' Hh' Tm' Bt' Zb' Sm' α' β' γ' Rk2'), ⟨q.1, Sm', α', β', γ', Rk2', hi, rfl⟩, by rw [q.2]; exact a8, by rw [q.2]; exact a9⟩)

/-! the reference's quotient keeps to bytes -/
def bb (k i : Nat) : Nat := if 8 * i + 8 ≤ k then 255 else if k ≤ 8 * i then 0 else 2 ^ (k - 8 * i) - 1
theorem bb_step (k i : Nat) : bb (k + 1) i = bb k i + (if i = k / 8 then 2 ^ (k % 8) else 0) := by
  unfold bb
  rcases (show 8 * i + 8 ≤ k ∨ k < 8 * i ∨ ∃ m, m < 8 ∧ k = 8 * i + m from (by rcases Nat.lt_or_ge k (8 * i) with h | h; exact Or.inr (Or.inl h); rcases Nat.lt_or_ge k (8 * i + 8) with h2 | h2; exact Or.inr (Or.inr ⟨k - 8 * i, by omega, by omega⟩); exact Or.inl h2)) with h | h | ⟨m, hm, rfl⟩
  · rw [if_pos (by omega), if_pos h, if_neg (by omega)]
  · rw [if_neg (by omega), if_pos (by omega), if_neg (by omega), if_pos (by omega), if_neg (by omega)]
  · rw [if_pos (show i = (8 * i + m) / 8 by omega), show (8 * i + m) % 8 = m by omega, if_neg (show ¬ 8 * i + 8 ≤ 8 * i + m by omega), if_neg (show ¬ 8 * i + m + 1 ≤ 8 * i by omega), show 8 * i + m + 1 - 8 * i = m + 1 by omega, show 8 * i + m - 8 * i = m by omega]
    rcases (show m = 0 ∨ m = 1 ∨ m = 2 ∨ m = 3 ∨ m = 4 ∨ m = 5 ∨ m = 6 ∨ m = 7 by omega) with rfl | rfl | rfl | rfl | rfl | rfl | rfl | rfl
    · rw [if_neg (by omega), if_pos (by omega)]
    all_goals first
      | rw [if_neg (by omega), if_neg (by omega)]
      | rw [if_pos (by omega), if_neg (by omega)]
theorem qL_8 {β : Nat → Nat} : ∀ {k : Nat} {α γ : Nat → Nat}, (∀ i, α i + bb k i ≤ 255) → by8 (r_qL β k α γ).1 := by
  intro k
  induction k with
  | zero => intro α γ h i; have := h i; show α i < 256; omega
  | succ k ih =>
    intro α γ h
    rw [r_qL]
    by_cases c : r_cmp (r_dblL 40 0 (if k = 256 then 1 else 0) γ) β 40 0 (nI 0) < 0
    · rw [if_pos c]; exact ih (fun i => by have := h i; rw [bb_step] at this; omega)
    · rw [if_neg c]
      refine ih (fun i => ?_)
      have := h i
      rw [bb_step] at this
      unfold updN
      by_cases e : i = k / 8
      · rw [if_pos e] at this ⊢; rw [← e]; omega
      · rw [if_neg e] at this ⊢; omega
theorem r_quo_8 {α β γ : Nat → Nat} (ha : by8 α) : by8 (r_quo α β γ).1 := by
  unfold r_quo
  refine qL_8 (fun i => ?_)
  have := ha i
  unfold zN bb
  by_cases c : i < 40
  · rw [if_pos c]
    by_cases d : 8 * i + 8 ≤ 257
    · rw [if_pos d]; omega
    · rw [if_neg d]
      by_cases e : 257 ≤ 8 * i
      · rw [if_pos e]; omega
      · rw [if_neg e, show 257 - 8 * i = 1 by omega]; decide
  · rw [if_neg c, if_neg (by omega), if_pos (by omega)]; omega

theorem invC_pr {rm n : Nat} {P Ch : Nat → Nat} {Wk pr pr' : Nat → Int64} {kn : Int64} {fd fq : Nat → Int64} {val : Nat → Nat} (hC : InvC rm n P Ch Wk pr kn fd fq val) (h : ∃ h' : Nat → Nat, lim pr' h' 9) : InvC rm n P Ch Wk pr' kn fd fq val :=
  ⟨hC.1, hC.2.1, hC.2.2.1, h, hC.2.2.2.2.1, hC.2.2.2.2.2⟩
theorem lim_pr {v h : Nat} {t : Int64} {Bt : Nat → Int64} {j : Nat} (hg : good v h) (hb : Bt j = lN v) {pr : Nat → Int64} (hl : ∃ hp : Nat → Nat, lim pr hp 9) : ∃ h' : Nat → Nat, lim (m_pr (Bt j) t pr) h' 9 := by
  obtain ⟨hp, hl⟩ := hl
  rw [hb]
  obtain ⟨h', a, -⟩ := pr_W (t := t) hg.1 (Nat.lt_of_lt_of_le (good_T hg) (by decide)) hl
  exact ⟨h', a⟩

set_option maxRecDepth 100000 in
set_option maxHeartbeats 4000000 in
theorem b_must (l : Launch) (D : va_G) (cI cJ cZ : ClassId) (ad ae : Nat → Nat) {rm n tp : Nat} {P Hh Ch : Nat → Nat} {Tm Bt : Nat → Int64} {Zb val : Nat → Nat} {Wk Rk pr : Nat → Int64} {kn : Int64} {fd fr fq : Nat → Int64} {Sm α β γ : Nat → Nat} {Rk2 : Nat → Int64} (hI : Inv rm n tp P Hh Bt Zb val) (hC : InvC rm n P Ch Wk pr kn fd fq val) (hM : InvM n Sm α β γ val) (x : Int32) : Both l D cI cJ cZ ad ae rm Int64 Value.long yT_must wT_must rm_c_must_ret yM_must wM_must rm_k_must_ret [.int x] (TDW cI cJ cZ ad rm n tp P Hh Ch Tm Bt Zb Wk Rk pr kn fd fr fq) (MDW cI cJ cZ ae rm n P Hh Tm Bt Zb Sm α β γ Rk2) := by
  obtain ⟨⟨h1, h2, h3, h4⟩, hpar, hH0, hHs, hHb, hz2, hz0, hzn, hcl, hB, hV, hT⟩ := id hI
  obtain ⟨m1, m2, m3, m4, m5⟩ := id hM
  obtain ⟨c1, c2, c3, ⟨hp, lp⟩, c5, c6⟩ := id hC
  rcases blk x (n := n) (by omega) with ⟨j, hj, rfl⟩ | hx
  · have hbj := hHb j hj
    obtain ⟨v, ev, gv⟩ := hB j hj
    by_cases h8 : (Hh j + 1) % 8 = 0
    · have eC : m_next (m_pr (Bt j) (Tm j - Tm (m_anc P (Hh j - (Hh j - 7)) j)) pr) = rMust P Hh Tm Bt j := by unfold rMust rSpan; rw [if_pos h8]; exact must_C gv ev lp _
      have eM : lN (r_must v (Tm j - Tm (m_anc P (Hh j - (Hh j - 7)) j)) α β) = rMust P Hh Tm Bt j := by unfold rMust rSpan; rw [if_pos h8]; exact must_M gv ev m2 m3 _
      have q1 := (c_must_ret l D cI cJ cZ (ad 0) rm n tp (ad 1) (ad 2) (ad 3) (ad 4) (ad 5) (ad 6) (ad 7) (ad 8) (ad 9) (ad 11) P Hh Tm Bt (ad 10) pr j (by omega) (by omega) hj hbj h8 hpar)
      have q2 := (k_must_ret l D cI cJ cZ (ae 0) rm n (ae 1) (ae 2) (ae 3) (ae 4) (ae 5) (ae 6) (ae 7) (ae 8) (ae 9) (ae 10) P Hh Tm Bt α β j v (by omega) hj h8 ev gv.1 m2 m3 hpar hH0 hHs hHb)
      rw [eC] at q1
      rw [eM] at q2
      exact ⟨rMust P Hh Tm Bt j, n, tp, P, Hh, Tm, Bt, Zb, val, hI, (cW (ad := ad) (rm := rm) (n := n) (tp := tp) (P := P) (Hh := Hh) (Ch := Ch) (Tm := Tm) (Bt := Bt) (Zb := Zb) (val := val) (Wk := Wk) (Rk := Rk) (pr := pr) (kn := kn) (fd := fd) (fr := fr) (fq := fq) Ch Wk Rk (m_pr (Bt j) (Tm j - Tm (m_anc P (Hh j - (Hh j - 7)) j)) pr) kn fd fr fq q1 [0, 1, 2, 4, 5, 9, 10] [3, 6, 7, 8, 11, 12, 13, 14] [8, 9, 10, 0, 11, 12, 1, 2, 3, 13, 14, 4, 5, 6, 7] rfl rfl rfl rfl rfl rfl (by decide) rfl rfl (invC_pr hC (lim_pr gv ev ⟨hp, lp⟩))), (mW (ae := ae) (rm := rm) (n := n) (P := P) (Hh := Hh) (Tm := Tm) (Bt := Bt) (Zb := Zb) (val := val) (Sm := Sm) (α := α) (β := β) (γ := γ) (Rk2 := Rk2) Sm (r_mustA v (Tm j - Tm (m_anc P (Hh j - (Hh j - 7)) j)) α) (r_open 545259519 β) γ Rk2 q2 [0, 1, 2, 3, 4, 7, 8] [5, 6, 9, 10] [4, 5, 6, 7, 8, 0, 1, 9, 10, 2, 3] rfl rfl rfl rfl rfl rfl (by decide) rfl rfl (⟨m1, r_mustA_by m2, r_open_by m3, m4, m5⟩))⟩
    · exact ⟨Bt j, n, tp, P, Hh, Tm, Bt, Zb, val, hI, (cS (ad := ad) (rm := rm) (n := n) (tp := tp) (P := P) (Hh := Hh) (Ch := Ch) (Tm := Tm) (Bt := Bt) (Zb := Zb) (val := val) (Wk := Wk) (Rk := Rk) (pr := pr) (kn := kn) (fd := fd) (fr := fr) (fq := fq) (c_must_same l D cI cJ cZ (ad 0) rm n tp (ad 1) (ad 2) (ad 3) (ad 4) (ad 5) (ad 6) (ad 7) (ad 8) (ad 9) (ad 11) Hh Bt j (by omega) (by omega) hj hbj h8) [0, 2, 5] rfl hC), (mS (ae := ae) (rm := rm) (n := n) (P := P) (Hh := Hh) (Tm := Tm) (Bt := Bt) (Zb := Zb) (val := val) (Sm := Sm) (α := α) (β := β) (γ := γ) (Rk2 := Rk2) (k_must_same l D cI cJ cZ (ae 0) rm n (ae 1) (ae 2) (ae 3) (ae 4) (ae 5) (ae 6) (ae 7) (ae 8) (ae 9) (ae 10) Hh Bt j (by omega) hj hbj h8) [0, 2, 4] rfl hM)⟩
  · exact ⟨(-1), n, tp, P, Hh, Tm, Bt, Zb, val, hI, (cS (ad := ad) (rm := rm) (n := n) (tp := tp) (P := P) (Hh := Hh) (Ch := Ch) (Tm := Tm) (Bt := Bt) (Zb := Zb) (val := val) (Wk := Wk) (Rk := Rk) (pr := pr) (kn := kn) (fd := fd) (fr := fr) (fq := fq) (c_must_nob l D cI cJ cZ (ad 0) rm n tp (ad 1) (ad 2) (ad 3) (ad 4) (ad 5) (ad 6) (ad 7) (ad 8) (ad 9) (ad 11) x hx) [0] rfl hC), (mS (ae := ae) (rm := rm) (n := n) (P := P) (Hh := Hh) (Tm := Tm) (Bt := Bt) (Zb := Zb) (val := val) (Sm := Sm) (α := α) (β := β) (γ := γ) (Rk2 := Rk2) (k_must_nob l D cI cJ cZ (ae 0) rm n (ae 1) (ae 2) (ae 3) (ae 4) (ae 5) (ae 6) (ae 7) (ae 8) (ae 9) (ae 10) x hx) [0] rfl hM)⟩

set_option maxRecDepth 100000 in
set_option maxHeartbeats 4000000 in
theorem b_median (l : Launch) (D : va_G) (cI cJ cZ : ClassId) (ad ae : Nat → Nat) {rm n tp : Nat} {P Hh Ch : Nat → Nat} {Tm Bt : Nat → Int64} {Zb val : Nat → Nat} {Wk Rk pr : Nat → Int64} {kn : Int64} {fd fr fq : Nat → Int64} {Sm α β γ : Nat → Nat} {Rk2 : Nat → Int64} (hI : Inv rm n tp P Hh Bt Zb val) (hC : InvC rm n P Ch Wk pr kn fd fq val) (hM : InvM n Sm α β γ val) (x : Int32) : Both l D cI cJ cZ ad ae rm Int64 Value.long yT_median wT_median rm_c_median_ok yM_median wM_median rm_k_median [.int x] (TDW cI cJ cZ ad rm n tp P Hh Ch Tm Bt Zb Wk Rk pr kn fd fr fq) (MDW cI cJ cZ ae rm n P Hh Tm Bt Zb Sm α β γ Rk2) := by
  obtain ⟨⟨h1, h2, h3, h4⟩, hpar, hH0, hHs, hHb, hz2, hz0, hzn, hcl, hB, hV, hT⟩ := id hI
  obtain ⟨m1, m2, m3, m4, m5⟩ := id hM
  rcases blk x (n := n) (by omega) with ⟨j, hj, rfl⟩ | hx
  · have q1 := (c_median_ok l D cI cJ cZ (ad 0) rm n tp (ad 1) (ad 2) (ad 3) (ad 4) (ad 5) (ad 6) (ad 7) (ad 8) (ad 9) (ad 11) P Tm Rk j (by omega) (by omega) hj hpar)
    have q2 := (k_median l D cI cJ cZ (ae 0) rm n (ae 1) (ae 2) (ae 3) (ae 4) (ae 5) (ae 6) (ae 7) (ae 8) (ae 9) (ae 10) P Tm Rk2 j (by omega) hj hpar)
    rw [med_eq] at q1 q2
    exact ⟨rMed P Tm j, n, tp, P, Hh, Tm, Bt, Zb, val, hI, (cW (ad := ad) (rm := rm) (n := n) (tp := tp) (P := P) (Hh := Hh) (Ch := Ch) (Tm := Tm) (Bt := Bt) (Zb := Zb) (val := val) (Wk := Wk) (Rk := Rk) (pr := pr) (kn := kn) (fd := fd) (fr := fr) (fq := fq) Ch Wk ((m_med P Tm 11 0 (j + 1) Rk).1) pr kn fd fr fq q1 [0, 1, 4, 8] [2, 3, 5, 6, 7, 9, 10, 11, 12, 13, 14] [11, 12, 0, 1, 13, 2, 3, 4, 14, 5, 6, 7, 8, 9, 10] rfl rfl rfl rfl rfl rfl (by decide) rfl rfl hC), (mW (ae := ae) (rm := rm) (n := n) (P := P) (Hh := Hh) (Tm := Tm) (Bt := Bt) (Zb := Zb) (val := val) (Sm := Sm) (α := α) (β := β) (γ := γ) (Rk2 := Rk2) Sm α β γ ((m_med P Tm 11 0 (j + 1) Rk2).1) q2 [0, 1, 3, 10] [2, 4, 5, 6, 7, 8, 9] [7, 8, 0, 9, 1, 2, 3, 4, 5, 6, 10] rfl rfl rfl rfl rfl rfl (by decide) rfl rfl hM)⟩
  · exact ⟨(-1), n, tp, P, Hh, Tm, Bt, Zb, val, hI, (cS (ad := ad) (rm := rm) (n := n) (tp := tp) (P := P) (Hh := Hh) (Ch := Ch) (Tm := Tm) (Bt := Bt) (Zb := Zb) (val := val) (Wk := Wk) (Rk := Rk) (pr := pr) (kn := kn) (fd := fd) (fr := fr) (fq := fq) (c_median_nob l D cI cJ cZ (ad 0) rm n tp (ad 1) (ad 2) (ad 3) (ad 4) (ad 5) (ad 6) (ad 7) (ad 8) (ad 9) (ad 11) x hx) [0] rfl hC), (mS (ae := ae) (rm := rm) (n := n) (P := P) (Hh := Hh) (Tm := Tm) (Bt := Bt) (Zb := Zb) (val := val) (Sm := Sm) (α := α) (β := β) (γ := γ) (Rk2 := Rk2) (k_median_nob l D cI cJ cZ (ae 0) rm n (ae 1) (ae 2) (ae 3) (ae 4) (ae 5) (ae 6) (ae 7) (ae 8) (ae 9) (ae 10) x hx) [0] rfl hM)⟩

theorem lN_32 {b : Int64} (h0 : 0 ≤ b) (h1 : b ≤ 4294967295) : ∃ v : Nat, v < 4294967296 ∧ b = lN v := by
  rw [Int64.le_iff_toInt_le] at h0 h1
  rw [show (0 : Int64).toInt = 0 from rfl] at h0
  rw [show (4294967295 : Int64).toInt = 4294967295 from rfl] at h1
  refine ⟨b.toInt.toNat, by omega, ?_⟩
  apply Int64.toInt_inj.mp
  rw [pf_lI (by omega)]
  omega
theorem fault_no {b : Int64} (h : ¬ (0 ≤ b ∧ b ≤ 4294967295)) : m_fault b = -1 := by
  unfold m_fault
  by_cases c : b < 0
  · rw [if_pos c]
  · rw [if_neg c, if_neg (fun q => h ⟨Int64.not_lt.mp c, q⟩)]

set_option maxRecDepth 100000 in
set_option maxHeartbeats 4000000 in
theorem b_fault (l : Launch) (D : va_G) (cI cJ cZ : ClassId) (ad ae : Nat → Nat) {rm n tp : Nat} {P Hh Ch : Nat → Nat} {Tm Bt : Nat → Int64} {Zb val : Nat → Nat} {Wk Rk pr : Nat → Int64} {kn : Int64} {fd fr fq : Nat → Int64} {Sm α β γ : Nat → Nat} {Rk2 : Nat → Int64} (hI : Inv rm n tp P Hh Bt Zb val) (hC : InvC rm n P Ch Wk pr kn fd fq val) (hM : InvM n Sm α β γ val) (b : Int64) : Both l D cI cJ cZ ad ae rm Int32 Value.int yT_fault wT_fault rm_c_fault yM_fault wM_fault rm_k_fault [.long b] (TDW cI cJ cZ ad rm n tp P Hh Ch Tm Bt Zb Wk Rk pr kn fd fr fq) (MDW cI cJ cZ ae rm n P Hh Tm Bt Zb Sm α β γ Rk2) := by
  obtain ⟨⟨h1, h2, h3, h4⟩, hpar, hH0, hHs, hHb, hz2, hz0, hzn, hcl, hB, hV, hT⟩ := id hI
  obtain ⟨m1, m2, m3, m4, m5⟩ := id hM
  rcases Classical.em (0 ≤ b ∧ b ≤ 4294967295) with hb | hb
  · obtain ⟨v, hv, rfl⟩ := lN_32 hb.1 hb.2
    have e := fault_eq hv m2 m3
    have q1 := (cS (ad := ad) (rm := rm) (n := n) (tp := tp) (P := P) (Hh := Hh) (Ch := Ch) (Tm := Tm) (Bt := Bt) (Zb := Zb) (val := val) (Wk := Wk) (Rk := Rk) (pr := pr) (kn := kn) (fd := fd) (fr := fr) (fq := fq) (c_fault l D cI cJ cZ (ad 0) rm n tp (ad 1) (ad 2) (ad 3) (ad 4) (ad 5) (ad 6) (ad 7) (ad 8) (ad 9) (ad 11) (lN v)) [0] rfl hC)
    rw [e] at q1
    exact ⟨r_fault v α β, n, tp, P, Hh, Tm, Bt, Zb, val, hI, q1, (rw_lift (wr := [1, 2, 3, 4, 5, 6, 9, 10].filterMap (fun i => (MDW cI cJ cZ ae rm n P Hh Tm Bt Zb Sm α β γ Rk2)[i]?)) (k_fault l D cI cJ cZ (ae 0) rm n (ae 1) (ae 2) (ae 3) (ae 4) (ae 5) (ae 6) (ae 7) (ae 8) (ae 9) (ae 10) α β v m2 m3 hv) [0, 7, 8] [1, 2, 3, 4, 5, 6, 9, 10] [8, 0, 1, 2, 3, 4, 5, 9, 10, 6, 7] rfl rfl rfl rfl rfl rfl (by decide) (fun v9 w9 q9 => by
          obtain ⟨rfl, a9, b9, g1, g2, rfl⟩ := q9
          exact ⟨MDW cI cJ cZ ae rm n P Hh Tm Bt Zb Sm a9 b9 γ Rk2, ⟨rfl, Sm, a9, b9, γ, Rk2, ⟨m1, g1, g2, m4, m5⟩, rfl⟩, rfl, rfl⟩))⟩
  · have e : m_fault b = -1 := fault_no hb
    have q1 := (cS (ad := ad) (rm := rm) (n := n) (tp := tp) (P := P) (Hh := Hh) (Ch := Ch) (Tm := Tm) (Bt := Bt) (Zb := Zb) (val := val) (Wk := Wk) (Rk := Rk) (pr := pr) (kn := kn) (fd := fd) (fr := fr) (fq := fq) (c_fault l D cI cJ cZ (ad 0) rm n tp (ad 1) (ad 2) (ad 3) (ad 4) (ad 5) (ad 6) (ad 7) (ad 8) (ad 9) (ad 11) b) [0] rfl hC)
    rw [e] at q1
    exact ⟨(-1), n, tp, P, Hh, Tm, Bt, Zb, val, hI, q1, (mS (ae := ae) (rm := rm) (n := n) (P := P) (Hh := Hh) (Tm := Tm) (Bt := Bt) (Zb := Zb) (val := val) (Sm := Sm) (α := α) (β := β) (γ := γ) (Rk2 := Rk2) (k_fault_no l D cI cJ cZ (ae 0) rm n (ae 1) (ae 2) (ae 3) (ae 4) (ae 5) (ae 6) (ae 7) (ae 8) (ae 9) (ae 10) b hb) [0] rfl hM)⟩

theorem tg_lo {b : Int64} {k : Int32} (h : k < 0) : m_target b k = 0 := by unfold m_target; by_cases c : m_fault b = 0 ∨ m_fault b = nI 4; (rw [if_pos c, if_pos h]); (rw [if_neg c])
theorem tg_hi {b : Int64} {k : Int32} (h : nI 4 ≤ k) : m_target b k = 0 := by
  have h0 : ¬ k < 0 := by rw [Int32.lt_iff_toInt_lt]; rw [Int32.le_iff_toInt_le] at h; rw [show (nI 4).toInt = 4 from rfl] at h; rw [show (0 : Int32).toInt = 0 from rfl]; omega
  unfold m_target; by_cases c : m_fault b = 0 ∨ m_fault b = nI 4; (rw [if_pos c, if_neg h0, if_pos h]); (rw [if_neg c])
theorem tg_in {b : Int64} {q : Nat} (hq : q < 4) : m_target b (nI q) = if m_fault b = 0 ∨ m_fault b = nI 4 then m_tp b (nI q) else 0 := by
  unfold m_target
  rw [if_neg (show ¬ nI q < 0 from fun z => by rw [show (0 : Int32) = nI 0 from rfl] at z; exact absurd z (Int32.not_lt.mpr (nI_le (Nat.zero_le _) (by omega)))), if_neg (show ¬ nI 4 ≤ nI q from fun z => absurd (nI_lt (a := q) (b := 4) hq (by omega)) (Int32.not_lt.mpr z))]
theorem tg_no {b : Int64} {k : Int32} (h : ¬ (0 ≤ b ∧ b ≤ 4294967295)) : m_target b k = 0 := by
  unfold m_target; rw [fault_no h, if_neg (by decide)]

set_option maxRecDepth 100000 in
set_option maxHeartbeats 4000000 in
theorem b_target (l : Launch) (D : va_G) (cI cJ cZ : ClassId) (ad ae : Nat → Nat) {rm n tp : Nat} {P Hh Ch : Nat → Nat} {Tm Bt : Nat → Int64} {Zb val : Nat → Nat} {Wk Rk pr : Nat → Int64} {kn : Int64} {fd fr fq : Nat → Int64} {Sm α β γ : Nat → Nat} {Rk2 : Nat → Int64} (hI : Inv rm n tp P Hh Bt Zb val) (hC : InvC rm n P Ch Wk pr kn fd fq val) (hM : InvM n Sm α β γ val) (b : Int64) (k : Int32) : Both l D cI cJ cZ ad ae rm Int64 Value.long yT_target wT_target rm_c_target yM_target wM_target rm_k_target [.long b, .int k] (TDW cI cJ cZ ad rm n tp P Hh Ch Tm Bt Zb Wk Rk pr kn fd fr fq) (MDW cI cJ cZ ae rm n P Hh Tm Bt Zb Sm α β γ Rk2) := by
  obtain ⟨⟨h1, h2, h3, h4⟩, hpar, hH0, hHs, hHb, hz2, hz0, hzn, hcl, hB, hV, hT⟩ := id hI
  obtain ⟨m1, m2, m3, m4, m5⟩ := id hM
  rcases Classical.em (0 ≤ b ∧ b ≤ 4294967295) with hb | hb
  · obtain ⟨v, hv, rfl⟩ := lN_32 hb.1 hb.2
    have e := fault_eq hv m2 m3
    rcases pk_ix k (n := 4) (by omega) with h | h | ⟨q, hq, rfl⟩
    · have q1 := (cS (ad := ad) (rm := rm) (n := n) (tp := tp) (P := P) (Hh := Hh) (Ch := Ch) (Tm := Tm) (Bt := Bt) (Zb := Zb) (val := val) (Wk := Wk) (Rk := Rk) (pr := pr) (kn := kn) (fd := fd) (fr := fr) (fq := fq) (c_target l D cI cJ cZ (ad 0) rm n tp (ad 1) (ad 2) (ad 3) (ad 4) (ad 5) (ad 6) (ad 7) (ad 8) (ad 9) (ad 11) (lN v) k) [0] rfl hC)
      rw [tg_lo h] at q1
      exact ⟨0, n, tp, P, Hh, Tm, Bt, Zb, val, hI, q1, (rw_lift (wr := [1, 2, 3, 4, 5, 6, 9, 10].filterMap (fun i => (MDW cI cJ cZ ae rm n P Hh Tm Bt Zb Sm α β γ Rk2)[i]?)) (k_target_kno l D cI cJ cZ (ae 0) rm n (ae 1) (ae 2) (ae 3) (ae 4) (ae 5) (ae 6) (ae 7) (ae 8) (ae 9) (ae 10) α β v k m2 m3 hv (fun z => absurd z.1 (Int32.not_le.mpr h))) [0, 7, 8] [1, 2, 3, 4, 5, 6, 9, 10] [8, 0, 1, 2, 3, 4, 5, 9, 10, 6, 7] rfl rfl rfl rfl rfl rfl (by decide) (fun v9 w9 q9 => by
          obtain ⟨rfl, a9, b9, g1, g2, rfl⟩ := q9
          exact ⟨MDW cI cJ cZ ae rm n P Hh Tm Bt Zb Sm a9 b9 γ Rk2, ⟨rfl, Sm, a9, b9, γ, Rk2, ⟨m1, g1, g2, m4, m5⟩, rfl⟩, rfl, rfl⟩))⟩
    · have q1 := (cS (ad := ad) (rm := rm) (n := n) (tp := tp) (P := P) (Hh := Hh) (Ch := Ch) (Tm := Tm) (Bt := Bt) (Zb := Zb) (val := val) (Wk := Wk) (Rk := Rk) (pr := pr) (kn := kn) (fd := fd) (fr := fr) (fq := fq) (c_target l D cI cJ cZ (ad 0) rm n tp (ad 1) (ad 2) (ad 3) (ad 4) (ad 5) (ad 6) (ad 7) (ad 8) (ad 9) (ad 11) (lN v) k) [0] rfl hC)
      rw [tg_hi h] at q1
      exact ⟨0, n, tp, P, Hh, Tm, Bt, Zb, val, hI, q1, (rw_lift (wr := [1, 2, 3, 4, 5, 6, 9, 10].filterMap (fun i => (MDW cI cJ cZ ae rm n P Hh Tm Bt Zb Sm α β γ Rk2)[i]?)) (k_target_kno l D cI cJ cZ (ae 0) rm n (ae 1) (ae 2) (ae 3) (ae 4) (ae 5) (ae 6) (ae 7) (ae 8) (ae 9) (ae 10) α β v k m2 m3 hv (fun z => by have h9 := z.2; rw [Int32.le_iff_toInt_le] at h h9; rw [show (nI 3).toInt = 3 from rfl] at h9; rw [show (nI 4).toInt = 4 from rfl] at h; omega)) [0, 7, 8] [1, 2, 3, 4, 5, 6, 9, 10] [8, 0, 1, 2, 3, 4, 5, 9, 10, 6, 7] rfl rfl rfl rfl rfl rfl (by decide) (fun v9 w9 q9 => by
          obtain ⟨rfl, a9, b9, g1, g2, rfl⟩ := q9
          exact ⟨MDW cI cJ cZ ae rm n P Hh Tm Bt Zb Sm a9 b9 γ Rk2, ⟨rfl, Sm, a9, b9, γ, Rk2, ⟨m1, g1, g2, m4, m5⟩, rfl⟩, rfl, rfl⟩))⟩
    · have q1 := (cS (ad := ad) (rm := rm) (n := n) (tp := tp) (P := P) (Hh := Hh) (Ch := Ch) (Tm := Tm) (Bt := Bt) (Zb := Zb) (val := val) (Wk := Wk) (Rk := Rk) (pr := pr) (kn := kn) (fd := fd) (fr := fr) (fq := fq) (c_target l D cI cJ cZ (ad 0) rm n tp (ad 1) (ad 2) (ad 3) (ad 4) (ad 5) (ad 6) (ad 7) (ad 8) (ad 9) (ad 11) (lN v) (nI q)) [0] rfl hC)
      rw [tg_in hq, e] at q1
      exact ⟨if r_fault v α β = 0 ∨ r_fault v α β = nI 4 then m_tp (lN v) (nI q) else 0, n, tp, P, Hh, Tm, Bt, Zb, val, hI, q1, (rw_lift (wr := [1, 2, 3, 4, 5, 6, 9, 10].filterMap (fun i => (MDW cI cJ cZ ae rm n P Hh Tm Bt Zb Sm α β γ Rk2)[i]?)) (k_target l D cI cJ cZ (ae 0) rm n (ae 1) (ae 2) (ae 3) (ae 4) (ae 5) (ae 6) (ae 7) (ae 8) (ae 9) (ae 10) α β v q m2 m3 hv hq) [0, 7, 8] [1, 2, 3, 4, 5, 6, 9, 10] [8, 0, 1, 2, 3, 4, 5, 9, 10, 6, 7] rfl rfl rfl rfl rfl rfl (by decide) (fun v9 w9 q9 => by
          obtain ⟨⟨c9, k1, rfl⟩, a9, b9, g1, g2, rfl⟩ := q9
          exact ⟨MDW cI cJ cZ ae rm n P Hh Tm Bt Zb Sm a9 b9 γ Rk2, ⟨by rw [target_eq (α := c9) hv hq], Sm, a9, b9, γ, Rk2, ⟨m1, g1, g2, m4, m5⟩, rfl⟩, rfl, rfl⟩))⟩
  · have q1 := (cS (ad := ad) (rm := rm) (n := n) (tp := tp) (P := P) (Hh := Hh) (Ch := Ch) (Tm := Tm) (Bt := Bt) (Zb := Zb) (val := val) (Wk := Wk) (Rk := Rk) (pr := pr) (kn := kn) (fd := fd) (fr := fr) (fq := fq) (c_target l D cI cJ cZ (ad 0) rm n tp (ad 1) (ad 2) (ad 3) (ad 4) (ad 5) (ad 6) (ad 7) (ad 8) (ad 9) (ad 11) b k) [0] rfl hC)
    rw [tg_no hb] at q1
    exact ⟨0, n, tp, P, Hh, Tm, Bt, Zb, val, hI, q1, (mS (ae := ae) (rm := rm) (n := n) (P := P) (Hh := Hh) (Tm := Tm) (Bt := Bt) (Zb := Zb) (val := val) (Sm := Sm) (α := α) (β := β) (γ := γ) (Rk2 := Rk2) (k_target_no l D cI cJ cZ (ae 0) rm n (ae 1) (ae 2) (ae 3) (ae 4) (ae 5) (ae 6) (ae 7) (ae 8) (ae 9) (ae 10) b k hb) [0] rfl hM)⟩

set_option maxRecDepth 100000 in
set_option maxHeartbeats 4000000 in
theorem b_compact (l : Launch) (D : va_G) (cI cJ cZ : ClassId) (ad ae : Nat → Nat) {rm n tp : Nat} {P Hh Ch : Nat → Nat} {Tm Bt : Nat → Int64} {Zb val : Nat → Nat} {Wk Rk pr : Nat → Int64} {kn : Int64} {fd fr fq : Nat → Int64} {Sm α β γ : Nat → Nat} {Rk2 : Nat → Int64} (hI : Inv rm n tp P Hh Bt Zb val) (hC : InvC rm n P Ch Wk pr kn fd fq val) (hM : InvM n Sm α β γ val) (x y z u : Int64) : Both l D cI cJ cZ ad ae rm Int64 Value.long yT_compact wT_compact rm_c_compact yM_compact wM_compact rm_k_compact [.long x, .long y, .long z, .long u] (TDW cI cJ cZ ad rm n tp P Hh Ch Tm Bt Zb Wk Rk pr kn fd fr fq) (MDW cI cJ cZ ae rm n P Hh Tm Bt Zb Sm α β γ Rk2) := by
  obtain ⟨⟨h1, h2, h3, h4⟩, hpar, hH0, hHs, hHb, hz2, hz0, hzn, hcl, hB, hV, hT⟩ := id hI
  obtain ⟨m1, m2, m3, m4, m5⟩ := id hM
  have q2 := (k_compact l D cI cJ cZ (ae 0) rm n (ae 1) (ae 2) (ae 3) (ae 4) (ae 5) (ae 6) (ae 7) (ae 8) (ae 9) (ae 10) α x y z u m2)
  rw [← compact_eq m2] at q2
  exact ⟨m_short x y z u, n, tp, P, Hh, Tm, Bt, Zb, val, hI, (cS (ad := ad) (rm := rm) (n := n) (tp := tp) (P := P) (Hh := Hh) (Ch := Ch) (Tm := Tm) (Bt := Bt) (Zb := Zb) (val := val) (Wk := Wk) (Rk := Rk) (pr := pr) (kn := kn) (fd := fd) (fr := fr) (fq := fq) (c_compact l D cI cJ cZ (ad 0) rm n tp (ad 1) (ad 2) (ad 3) (ad 4) (ad 5) (ad 6) (ad 7) (ad 8) (ad 9) (ad 11) x y z u) [0] rfl hC), (mW (ae := ae) (rm := rm) (n := n) (P := P) (Hh := Hh) (Tm := Tm) (Bt := Bt) (Zb := Zb) (val := val) (Sm := Sm) (α := α) (β := β) (γ := γ) (Rk2 := Rk2) Sm (r_cpL x y z u 32 0 (zN α 40)) β γ Rk2 q2 [0, 7] [1, 2, 3, 4, 5, 6, 8, 9, 10] [9, 0, 1, 2, 3, 4, 5, 10, 6, 7, 8] rfl rfl rfl rfl rfl rfl (by decide) rfl rfl (⟨m1, r_cpL_by (by8_z m2), m3, m4, m5⟩))⟩

theorem Gz_0 {P Hh Zb : Nat → Nat} {j i x : Nat} (h : Gz P Hh Zb j i x = 0) : Zb x = 0 := by
  unfold Gz at h
  by_cases c : x < i ∧ Zb x = 0 ∧ r_bel P Hh x (Hh j) = nI j
  · exact c.2.1
  · rw [if_neg c] at h; exact h
theorem best_C {rm n : Nat} {P Ch : Nat → Nat} {Wk pr : Nat → Int64} {kn : Int64} {fd fq : Nat → Int64} {val Z : Nat → Nat} {tp : Nat} (hn : 1 ≤ n) (hr : n ≤ rm) (hC : InvC rm n P Ch Wk pr kn fd fq val) (hz : Z 0 = 0) (hb : Z tp = 0 → isBest Z val n tp) : isBest Z val n (if Z tp = 0 then tp else m_best Z Wk (n - 1) 1 0) := by
  obtain ⟨-, -, ⟨w, lw, hw⟩, -⟩ := hC
  by_cases c : Z tp = 0
  · rw [if_pos c]; exact hb c
  · rw [if_neg c]
    have := best_is (Z := Z) (W := Wk) (val := val) (n := n) hz (fun x y hx hy => by rw [cmp_C lw (n := n) (by omega) hw hx hy]; exact cmpOf_le) (n - 1) (by omega)
    rw [show n - 1 + 1 = n by omega] at this
    exact this

set_option maxRecDepth 100000 in
set_option maxHeartbeats 4000000 in
theorem b_spoil (l : Launch) (D : va_G) (cI cJ cZ : ClassId) (ad ae : Nat → Nat) {rm n tp : Nat} {P Hh Ch : Nat → Nat} {Tm Bt : Nat → Int64} {Zb val : Nat → Nat} {Wk Rk pr : Nat → Int64} {kn : Int64} {fd fr fq : Nat → Int64} {Sm α β γ : Nat → Nat} {Rk2 : Nat → Int64} (hI : Inv rm n tp P Hh Bt Zb val) (hC : InvC rm n P Ch Wk pr kn fd fq val) (hM : InvM n Sm α β γ val) (x : Int32) : Both l D cI cJ cZ ad ae rm Int32 Value.int yT_spoil wT_spoil rm_c_spoil_ok yM_spoil wM_spoil rm_k_spoil [.int x] (TDW cI cJ cZ ad rm n tp P Hh Ch Tm Bt Zb Wk Rk pr kn fd fr fq) (MDW cI cJ cZ ae rm n P Hh Tm Bt Zb Sm α β γ Rk2) := by
  obtain ⟨⟨h1, h2, h3, h4⟩, hpar, hH0, hHs, hHb, hz2, hz0, hzn, hcl, hB, hV, hT⟩ := id hI
  obtain ⟨m1, m2, m3, m4, m5⟩ := id hM
  rcases blk x (n := n) (by omega) with ⟨j, hj, rfl⟩ | hx
  · rcases Nat.eq_zero_or_pos j with g | g
    · subst g
      exact ⟨nI 0, n, tp, P, Hh, Tm, Bt, Zb, val, hI, (cS (ad := ad) (rm := rm) (n := n) (tp := tp) (P := P) (Hh := Hh) (Ch := Ch) (Tm := Tm) (Bt := Bt) (Zb := Zb) (val := val) (Wk := Wk) (Rk := Rk) (pr := pr) (kn := kn) (fd := fd) (fr := fr) (fq := fq) (c_spoil_root l D cI cJ cZ (ad 0) rm n tp (ad 1) (ad 2) (ad 3) (ad 4) (ad 5) (ad 6) (ad 7) (ad 8) (ad 9) (ad 11) (by omega) (by omega)) [0] rfl hC), (mS (ae := ae) (rm := rm) (n := n) (P := P) (Hh := Hh) (Tm := Tm) (Bt := Bt) (Zb := Zb) (val := val) (Sm := Sm) (α := α) (β := β) (γ := γ) (Rk2 := Rk2) (k_spoil_root l D cI cJ cZ (ae 0) rm n (ae 1) (ae 2) (ae 3) (ae 4) (ae 5) (ae 6) (ae 7) (ae 8) (ae 9) (ae 10) (by omega) (by omega)) [0] rfl hM)⟩
    · by_cases hz : Zb j = 0
      · obtain ⟨e1, e2, e3⟩ := spoil_eq hpar hH0 hHs (by omega) hj g hz hcl
        have nd0 : Gz P Hh Zb j n 0 = 0 := by unfold Gz; rw [if_neg (fun q => by have := dsc_le hpar (i := 0) (by omega) (by omega) hj q.2.2; omega)]; exact hz0
        have hb := best_C (Z := Gz P Hh Zb j n) (tp := tp) h1 h2 hC nd0 (fun c => ⟨hT.1, c, fun i hi q => hT.2.2 i hi (Gz_0 q)⟩)
        have hI2 := inv_spoil hI hj g hb
        have q1 := (c_spoil_ok l D cI cJ cZ (ad 0) rm n tp (ad 1) (ad 2) (ad 3) (ad 4) (ad 5) (ad 6) (ad 7) (ad 8) (ad 9) (ad 11) P Zb Wk j (by omega) (by omega) hj g hT.1 hz hz2 hpar)
        have q2 := (k_spoil l D cI cJ cZ (ae 0) rm n (ae 1) (ae 2) (ae 3) (ae 4) (ae 5) (ae 6) (ae 7) (ae 8) (ae 9) (ae 10) P Hh Zb j (by omega) hj g hz hz2 hpar hH0 hHs hHb)
        rw [e2, e1, e3] at q1
        rw [e3] at q2
        exact ⟨nI (r_gone P Hh j n 0 0 Zb).2, n, (if Gz P Hh Zb j n tp = 0 then tp else m_best (Gz P Hh Zb j n) Wk (n - 1) 1 0), P, Hh, Tm, Bt, (Gz P Hh Zb j n), val, hI2, (cW (ad := ad) (rm := rm) (n := n) (tp := tp) (P := P) (Hh := Hh) (Ch := Ch) (Tm := Tm) (Bt := Bt) (Zb := Zb) (val := val) (Wk := Wk) (Rk := Rk) (pr := pr) (kn := kn) (fd := fd) (fr := fr) (fq := fq) Ch Wk Rk pr kn fd fr fq q1 [0, 1, 6, 7] [2, 3, 4, 5, 8, 9, 10, 11, 12, 13, 14] [11, 12, 0, 1, 2, 3, 13, 14, 4, 5, 6, 7, 8, 9, 10] rfl rfl rfl rfl rfl rfl (by decide) rfl rfl hC), (mW (ae := ae) (rm := rm) (n := n) (P := P) (Hh := Hh) (Tm := Tm) (Bt := Bt) (Zb := Zb) (val := val) (Sm := Sm) (α := α) (β := β) (γ := γ) (Rk2 := Rk2) Sm α β γ Rk2 q2 [0, 1, 2, 5] [3, 4, 6, 7, 8, 9, 10] [7, 8, 9, 0, 1, 10, 2, 3, 4, 5, 6] rfl rfl rfl rfl rfl rfl (by decide) rfl rfl hM)⟩
      · exact ⟨nI 0, n, tp, P, Hh, Tm, Bt, Zb, val, hI, (cS (ad := ad) (rm := rm) (n := n) (tp := tp) (P := P) (Hh := Hh) (Ch := Ch) (Tm := Tm) (Bt := Bt) (Zb := Zb) (val := val) (Wk := Wk) (Rk := Rk) (pr := pr) (kn := kn) (fd := fd) (fr := fr) (fq := fq) (c_spoil_bad l D cI cJ cZ (ad 0) rm n tp (ad 1) (ad 2) (ad 3) (ad 4) (ad 5) (ad 6) (ad 7) (ad 8) (ad 9) (ad 11) Zb j (by omega) (by omega) hj hz (hz2 j)) [0, 6] rfl hC), (mS (ae := ae) (rm := rm) (n := n) (P := P) (Hh := Hh) (Tm := Tm) (Bt := Bt) (Zb := Zb) (val := val) (Sm := Sm) (α := α) (β := β) (γ := γ) (Rk2 := Rk2) (k_spoil_bad l D cI cJ cZ (ae 0) rm n (ae 1) (ae 2) (ae 3) (ae 4) (ae 5) (ae 6) (ae 7) (ae 8) (ae 9) (ae 10) Zb j (by omega) hj hz (hz2 j)) [0, 5] rfl hM)⟩
  · exact ⟨nI 0, n, tp, P, Hh, Tm, Bt, Zb, val, hI, (cS (ad := ad) (rm := rm) (n := n) (tp := tp) (P := P) (Hh := Hh) (Ch := Ch) (Tm := Tm) (Bt := Bt) (Zb := Zb) (val := val) (Wk := Wk) (Rk := Rk) (pr := pr) (kn := kn) (fd := fd) (fr := fr) (fq := fq) (c_spoil_nob l D cI cJ cZ (ad 0) rm n tp (ad 1) (ad 2) (ad 3) (ad 4) (ad 5) (ad 6) (ad 7) (ad 8) (ad 9) (ad 11) x hx) [0] rfl hC), (mS (ae := ae) (rm := rm) (n := n) (P := P) (Hh := Hh) (Tm := Tm) (Bt := Bt) (Zb := Zb) (val := val) (Sm := Sm) (α := α) (β := β) (γ := γ) (Rk2 := Rk2) (k_spoil_nob l D cI cJ cZ (ae 0) rm n (ae 1) (ae 2) (ae 3) (ae 4) (ae 5) (ae 6) (ae 7) (ae 8) (ae 9) (ae 10) x hx) [0] rfl hM)⟩
