theorem invC_add {rm n tp : Nat} {P Hh Ch : Nat → Nat} {Bt : Nat → Int64} {Zb val : Nat → Nat} {Wk pr : Nat → Int64} {kn : Int64} {fd fq : Nat → Int64} (hI : Inv rm n tp P Hh Bt Zb val) (hC : InvC rm n P Ch Wk pr kn fd fq val) {j v : Nat} (hj : j < n) (hn : n < rm) (hg : good v (Hh j + 1)) {F : Nat → Int64} {f : Nat → Nat} (lf : lim F f 8) (hf : vV f 8 = wrk v)
    {pr' fd' fq' : Nat → Int64} {kn' : Int64} (a1 : ∃ h : Nat → Nat, lim pr' h 9) (a2 : ∃ h : Nat → Nat, lim fd' h 8) (a3 : ∃ (vk : Nat) (hq : Nat → Nat), kn' = lN vk ∧ vk < 4294967296 ∧ lim fq' hq 8 ∧ vV hq 8 = wrk vk) :
    InvC rm (n + 1) (updN P n j) (updN Ch j (Ch j + 1)) (m_sum F n j Wk) pr' kn' fd' fq' (updN val n (val j + wrk v)) ∧ (if m_cmp (m_sum F n j Wk) n tp 8 0 ≤ 0 then tp else n) = (if updN val n (val j + wrk v) n ≤ updN val n (val j + wrk v) tp then tp else n) := by
  have hvb := val_b hI hj hg
  obtain ⟨⟨h1, h2, h3, h4⟩, hp, h0, hs, hb, hz2, hz0, hzn, hcl, hB, hV, hT⟩ := hI
  obtain ⟨c1, c2, ⟨w, lw, hw⟩, -, -, -⟩ := hC
  obtain ⟨w', lw', hw'⟩ := sum_C lf hf lw hj hn hw hvb
  refine ⟨⟨ch_add hp h1 (by omega) hj c1 c2, fun x hx => ?_, ⟨w', lw', hw'⟩, a1, a2, a3⟩, ?_⟩
  · rw [updN_ne (by omega)]; exact c2 x (by omega)
  · have ht := hT.1
    have e := cmp_C lw' (n := n + 1) (x := n) (y := tp) (by omega) hw' (by omega) (by omega)
    rw [e]
    by_cases c : updN val n (val j + wrk v) n ≤ updN val n (val j + wrk v) tp
    · rw [if_pos c, if_pos (cmpOf_le.mpr c)]
    · rw [if_neg c, if_neg (fun q => c (cmpOf_le.mp q))]
theorem invM_add {rm n tp : Nat} {P Hh : Nat → Nat} {Bt : Nat → Int64} {Zb val Sm α β γ : Nat → Nat} (hI : Inv rm n tp P Hh Bt Zb val) (hM : InvM n Sm α β γ val) {j v : Nat} (hj : j < n) (hg : good v (Hh j + 1)) {α1 β1 : Nat → Nat} (ha : by8 α1) (hb1 : by8 β1) :
    InvM (n + 1) (r_sumL (r_quo (r_open v α1) β1 γ).1 n j 40 0 0 Sm) (r_quo (r_open v α1) β1 γ).1 (r_inc (r_open v α1) β1) (r_quo (r_open v α1) β1 γ).2 (updN val n (val j + wrk v)) := by
  have hvb := val_b hI hj hg
  obtain ⟨m1, m2, m3, m4, m5⟩ := hM
  have hT := good_T hg
  have e1 : sV (r_open v α1) 0 40 = tgt v := op_V hg.1 (Nat.lt_trans hT (by decide))
  have e2 : sV (r_quo (r_open v α1) β1 γ).1 0 40 = wrk v := r_quo_V hb1 m4 e1 (Nat.lt_of_le_of_lt hT (by decide))
  exact ⟨r_sumL_by m1, r_quo_8 (r_open_by ha), r_incL_by hb1, r_qL_by (by8_z m4), sum_M e2 hj m5 hvb⟩
theorem lN_inj {a b : Nat} (ha : a < 4294967296) (hb : b < 4294967296) (h : lN a = lN b) : a = b := by
  have e := congrArg Int64.toInt h
  rw [pf_lI (by omega), pf_lI (by omega)] at e
  omega
theorem uz_n {Zb : Nat → Nat} {n : Nat} (h : Zb n = 0) : updN Zb n 0 = Zb := by
  funext x; unfold updN
  by_cases e : x = n
  · rw [if_pos e, e, h]
  · rw [if_neg e]

set_option maxRecDepth 100000 in
set_option maxHeartbeats 4000000 in
theorem b_add (l : Launch) (D : va_G) (cI cJ cZ : ClassId) (ad ae : Nat → Nat) {rm n tp : Nat} {P Hh Ch : Nat → Nat} {Tm Bt : Nat → Int64} {Zb val : Nat → Nat} {Wk Rk pr : Nat → Int64} {kn : Int64} {fd fr fq : Nat → Int64} {Sm α β γ : Nat → Nat} {Rk2 : Nat → Int64} (hI : Inv rm n tp P Hh Bt Zb val) (hC : InvC rm n P Ch Wk pr kn fd fq val) (hM : InvM n Sm α β γ val) (x : Int32) (t b : Int64) : Both l D cI cJ cZ ad ae rm Int32 Value.int yT_add wT_add rm_c_add_okRn yM_add wM_add rm_k_add_okR [.int x, .long t, .long b] (TDW cI cJ cZ ad rm n tp P Hh Ch Tm Bt Zb Wk Rk pr kn fd fr fq) (MDW cI cJ cZ ae rm n P Hh Tm Bt Zb Sm α β γ Rk2) := by
  obtain ⟨⟨h1, h2, h3, h4⟩, hpar, hH0, hHs, hHb, hz2, hz0, hzn, hcl, hB, hV, hT⟩ := id hI
  obtain ⟨m1, m2, m3, m4, m5⟩ := id hM
  obtain ⟨c1, c2, c3, ⟨hp, lp⟩, c5, ⟨vk, hq, ek0, lvk, lq, vq⟩⟩ := id hC
  rcases blk x (n := n) (by omega) with ⟨j, hj, rfl⟩ | hx
  · have hbj := hHb j hj
    by_cases hz : Zb j = 0
    · obtain ⟨v0, ev, gv⟩ := hB j hj
      obtain ⟨v, eb, hg⟩ := must_good (Tm := Tm) hI hj
      have hCj : Ch j < 301 := by rw [c1 j hj]; have := ch_le (P := P) (j := j) n 0 0; omega
      have m9 := med_eq (P := P) (T := Tm) (j := j) Rk
      have m8 := med_eq (P := P) (T := Tm) (j := j) Rk2
      by_cases h8 : (Hh j + 1) % 8 = 0
      · have eC : m_next (m_pr (Bt j) (Tm j - Tm (m_anc P (Hh j - (Hh j - 7)) j)) pr) = rMust P Hh Tm Bt j := by unfold rMust rSpan; rw [if_pos h8]; exact must_C gv ev lp _
        have eM : lN (r_must v0 (Tm j - Tm (m_anc P (Hh j - (Hh j - 7)) j)) α β) = rMust P Hh Tm Bt j := by unfold rMust rSpan; rw [if_pos h8]; exact must_M gv ev m2 m3 _
        by_cases hb : b = rMust P Hh Tm Bt j
        · by_cases ht : rMed P Tm j < t ∧ t ≤ 4294967295
          · have t9 := Int64.not_lt.mpr ht.2
            have k9 : (m_med P Tm 11 0 (j + 1) Rk).1 ((m_med P Tm 11 0 (j + 1) Rk).2 / 2) < t := by rw [m9]; exact ht.1
            have k8 : (m_med P Tm 11 0 (j + 1) Rk2).1 ((m_med P Tm 11 0 (j + 1) Rk2).2 / 2) < t := by rw [m8]; exact ht.1
            by_cases hf : n = rm
            · exact ⟨(-5), n, tp, P, Hh, Tm, Bt, Zb, val, hI, (cW (ad := ad) (rm := rm) (n := n) (tp := tp) (P := P) (Hh := Hh) (Ch := Ch) (Tm := Tm) (Bt := Bt) (Zb := Zb) (val := val) (Wk := Wk) (Rk := Rk) (pr := pr) (kn := kn) (fd := fd) (fr := fr) (fq := fq) Ch Wk ((m_med P Tm 11 0 (j + 1) Rk).1) (m_pr (Bt j) (Tm j - Tm (m_anc P (Hh j - (Hh j - 7)) j)) pr) kn fd fr fq (c_add_fullR l D cI cJ cZ (ad 0) rm n tp (ad 1) (ad 2) (ad 3) (ad 4) (ad 5) (ad 6) (ad 7) (ad 8) (ad 9) (ad 11) P Hh Tm Bt Zb Rk (ad 10) pr j t b (by omega) (by omega) hj hbj hz h8 (hb.trans eC.symm) k9 ht.2 hf hpar) [0, 1, 2, 4, 5, 6, 8, 9, 10] [3, 7, 11, 12, 13, 14] [6, 7, 8, 0, 9, 10, 11, 1, 12, 13, 14, 2, 3, 4, 5] rfl rfl rfl rfl rfl rfl (by decide) rfl rfl (invC_pr hC (lim_pr gv ev ⟨hp, lp⟩))), (mW (ae := ae) (rm := rm) (n := n) (P := P) (Hh := Hh) (Tm := Tm) (Bt := Bt) (Zb := Zb) (val := val) (Sm := Sm) (α := α) (β := β) (γ := γ) (Rk2 := Rk2) Sm (r_mustA v0 (Tm j - Tm (m_anc P (Hh j - (Hh j - 7)) j)) α) (r_open 545259519 β) γ ((m_med P Tm 11 0 (j + 1) Rk2).1) (k_add_fullR l D cI cJ cZ (ae 0) rm n (ae 1) (ae 2) (ae 3) (ae 4) (ae 5) (ae 6) (ae 7) (ae 8) (ae 9) (ae 10) P Hh Tm Bt α β Zb Rk2 j t b v0 (by omega) hj hbj hz h8 ev gv.1 m2 m3 (hb.trans eM.symm) t9 k8 hf hpar hH0 hHs hHb) [0, 1, 2, 3, 4, 7, 8, 5, 10] [6, 9] [2, 3, 4, 5, 6, 9, 0, 7, 8, 1, 10] rfl rfl rfl rfl rfl rfl (by decide) rfl rfl (⟨m1, r_mustA_by m2, r_open_by m3, m4, m5⟩))⟩
            · have hn : n < rm := by omega
              have hC3 : Ch j < 300 := by rw [c1 j hj]; have := ch_le (P := P) (j := j) n 0 0; omega
              by_cases hk : kn = b
              · subst hk
                have ek : kn = lN v := hb.trans eb
                have ev9 : vk = v := lN_inj lvk hg.1 (ek0.symm.trans ek)
                have lF := lq
                have vF : vV hq 8 = wrk v := by rw [vq, ev9]
                obtain ⟨iC, et⟩ := invC_add hI hC hj hn hg lF vF (pr' := m_pr (Bt j) (Tm j - Tm (m_anc P (Hh j - (Hh j - 7)) j)) pr) (fd' := fd) (fq' := fq) (kn' := kn) (lim_pr gv ev ⟨hp, lp⟩) c5 ⟨vk, hq, ek0, lvk, lq, vq⟩
                have iM := invM_add hI hM hj hg (α1 := r_mustA v0 (Tm j - Tm (m_anc P (Hh j - (Hh j - 7)) j)) α) (β1 := r_open 545259519 β) (r_mustA_by m2) (r_open_by m3)
                have iI := inv_add hI hj hn hz hg
                have q1 := (c_add_okRo l D cI cJ cZ (ad 0) rm n tp (ad 1) (ad 2) (ad 3) (ad 4) (ad 5) (ad 6) (ad 7) (ad 8) (ad 9) (ad 11) P Hh Ch Tm Bt Zb Wk Rk (ad 10) pr (ad 12) (ad 13) (ad 14) kn fd fr fq j t (by omega) hn (by omega) hj hT.1 hbj hC3 hz h8 (hb.trans eC.symm) k9 ht.2 hpar)
                have q2 := (k_add_okR l D cI cJ cZ (ae 0) rm n (ae 1) (ae 2) (ae 3) (ae 4) (ae 5) (ae 6) (ae 7) (ae 8) (ae 9) (ae 10) P Hh Tm Bt Zb Sm α β γ Rk2 j t v v0 (by omega) (by omega) hf (by omega) hj hbj hg.1 hz h8 ev gv.1 m2 m3 m4 m1 (eb.symm.trans eM.symm) t9 k8 hpar hH0 hHs hHb)
                rw [et] at q1
                rw [uz_n (hzn n (Nat.le_refl _))] at q2
                rw [← ek] at q2 iI
                exact ⟨nI n, n + 1, (if updN val n (val j + wrk v) n ≤ updN val n (val j + wrk v) tp then tp else n), updN P n j, updN Hh n (Hh j + 1), vp_updL Tm n t, vp_updL Bt n kn, Zb, updN val n (val j + wrk v), iI, (cW (ad := ad) (rm := rm) (n := n) (tp := tp) (P := P) (Hh := Hh) (Ch := Ch) (Tm := Tm) (Bt := Bt) (Zb := Zb) (val := val) (Wk := Wk) (Rk := Rk) (pr := pr) (kn := kn) (fd := fd) (fr := fr) (fq := fq) (updN Ch j (Ch j + 1)) (m_sum fq n j Wk) ((m_med P Tm 11 0 (j + 1) Rk).1) (m_pr (Bt j) (Tm j - Tm (m_anc P (Hh j - (Hh j - 7)) j)) pr) kn fd fr fq q1 [0, 1, 2, 3, 4, 5, 6, 7, 8, 9, 10, 11, 12, 13, 14] [] [0, 1, 2, 3, 4, 5, 6, 7, 8, 9, 10, 11, 12, 13, 14] rfl rfl rfl rfl rfl rfl (by decide) rfl rfl iC), (mW (ae := ae) (rm := rm) (n := n) (P := P) (Hh := Hh) (Tm := Tm) (Bt := Bt) (Zb := Zb) (val := val) (Sm := Sm) (α := α) (β := β) (γ := γ) (Rk2 := Rk2) (r_sumL (r_quo (r_open v (r_mustA v0 (Tm j - Tm (m_anc P (Hh j - (Hh j - 7)) j)) α)) (r_open 545259519 β) γ).1 n j 40 0 0 Sm) ((r_quo (r_open v (r_mustA v0 (Tm j - Tm (m_anc P (Hh j - (Hh j - 7)) j)) α)) (r_open 545259519 β) γ).1) (r_inc (r_open v (r_mustA v0 (Tm j - Tm (m_anc P (Hh j - (Hh j - 7)) j)) α)) (r_open 545259519 β)) ((r_quo (r_open v (r_mustA v0 (Tm j - Tm (m_anc P (Hh j - (Hh j - 7)) j)) α)) (r_open 545259519 β) γ).2) ((m_med P Tm 11 0 (j + 1) Rk2).1) q2 [0, 1, 2, 3, 4, 5, 6, 7, 8, 9, 10] [] [0, 1, 2, 3, 4, 5, 6, 7, 8, 9, 10] rfl rfl rfl rfl rfl rfl (by decide) rfl rfl iM)⟩
              · have hbv : lN v = b := (hb.trans eb).symm
                subst hbv
                obtain ⟨hd, ld⟩ := c5
                obtain ⟨L, d1, d2, d3, d4, f, lF, vF⟩ := worth_C (r := fr) (q := fq) hg (by omega) ld
                obtain ⟨iC, et⟩ := invC_add hI hC hj hn hg lF vF (pr' := m_pr (Bt j) (Tm j - Tm (m_anc P (Hh j - (Hh j - 7)) j)) pr) (fd' := m_set (lN v) fd) (fq' := (m_dv (m_set (lN v) fd) fr fq (L - 2)).2) (kn' := lN v) (lim_pr gv ev ⟨hp, lp⟩) d4 ⟨v, f, rfl, hg.1, lF, vF⟩
                have iM := invM_add hI hM hj hg (α1 := r_mustA v0 (Tm j - Tm (m_anc P (Hh j - (Hh j - 7)) j)) α) (β1 := r_open 545259519 β) (r_mustA_by m2) (r_open_by m3)
                have iI := inv_add hI hj hn hz hg
                have q1 := (c_add_okRn l D cI cJ cZ (ad 0) rm n tp (ad 1) (ad 2) (ad 3) (ad 4) (ad 5) (ad 6) (ad 7) (ad 8) (ad 9) (ad 11) P Hh Ch Tm Bt Zb Wk Rk (ad 10) pr (ad 12) (ad 13) (ad 14) kn fd fr fq j t (lN v) L (by omega) hn (by omega) hj hT.1 hbj hC3 hz h8 (hb.trans eC.symm) k9 ht.2 (fun q => hk q.symm) d1 d2 d3 hpar)
                have q2 := (k_add_okR l D cI cJ cZ (ae 0) rm n (ae 1) (ae 2) (ae 3) (ae 4) (ae 5) (ae 6) (ae 7) (ae 8) (ae 9) (ae 10) P Hh Tm Bt Zb Sm α β γ Rk2 j t v v0 (by omega) (by omega) hf (by omega) hj hbj hg.1 hz h8 ev gv.1 m2 m3 m4 m1 (hb.trans eM.symm) t9 k8 hpar hH0 hHs hHb)
                rw [et] at q1
                rw [uz_n (hzn n (Nat.le_refl _))] at q2
                exact ⟨nI n, n + 1, (if updN val n (val j + wrk v) n ≤ updN val n (val j + wrk v) tp then tp else n), updN P n j, updN Hh n (Hh j + 1), vp_updL Tm n t, vp_updL Bt n (lN v), Zb, updN val n (val j + wrk v), iI, (cW (ad := ad) (rm := rm) (n := n) (tp := tp) (P := P) (Hh := Hh) (Ch := Ch) (Tm := Tm) (Bt := Bt) (Zb := Zb) (val := val) (Wk := Wk) (Rk := Rk) (pr := pr) (kn := kn) (fd := fd) (fr := fr) (fq := fq) (updN Ch j (Ch j + 1)) (m_sum (m_dv (m_set (lN v) fd) fr fq (L - 2)).2 n j Wk) ((m_med P Tm 11 0 (j + 1) Rk).1) (m_pr (Bt j) (Tm j - Tm (m_anc P (Hh j - (Hh j - 7)) j)) pr) (lN v) (m_set (lN v) fd) ((m_dv (m_set (lN v) fd) fr fq (L - 2)).1) ((m_dv (m_set (lN v) fd) fr fq (L - 2)).2) q1 [0, 1, 2, 3, 4, 5, 6, 7, 8, 9, 10, 11, 12, 13, 14] [] [0, 1, 2, 3, 4, 5, 6, 7, 8, 9, 10, 11, 12, 13, 14] rfl rfl rfl rfl rfl rfl (by decide) rfl rfl iC), (mW (ae := ae) (rm := rm) (n := n) (P := P) (Hh := Hh) (Tm := Tm) (Bt := Bt) (Zb := Zb) (val := val) (Sm := Sm) (α := α) (β := β) (γ := γ) (Rk2 := Rk2) (r_sumL (r_quo (r_open v (r_mustA v0 (Tm j - Tm (m_anc P (Hh j - (Hh j - 7)) j)) α)) (r_open 545259519 β) γ).1 n j 40 0 0 Sm) ((r_quo (r_open v (r_mustA v0 (Tm j - Tm (m_anc P (Hh j - (Hh j - 7)) j)) α)) (r_open 545259519 β) γ).1) (r_inc (r_open v (r_mustA v0 (Tm j - Tm (m_anc P (Hh j - (Hh j - 7)) j)) α)) (r_open 545259519 β)) ((r_quo (r_open v (r_mustA v0 (Tm j - Tm (m_anc P (Hh j - (Hh j - 7)) j)) α)) (r_open 545259519 β) γ).2) ((m_med P Tm 11 0 (j + 1) Rk2).1) q2 [0, 1, 2, 3, 4, 5, 6, 7, 8, 9, 10] [] [0, 1, 2, 3, 4, 5, 6, 7, 8, 9, 10] rfl rfl rfl rfl rfl rfl (by decide) rfl rfl iM)⟩
          · have k9 : ¬ ((m_med P Tm 11 0 (j + 1) Rk).1 ((m_med P Tm 11 0 (j + 1) Rk).2 / 2) < t ∧ t ≤ 4294967295) := by rw [m9]; exact ht
            have q1 := (cW (ad := ad) (rm := rm) (n := n) (tp := tp) (P := P) (Hh := Hh) (Ch := Ch) (Tm := Tm) (Bt := Bt) (Zb := Zb) (val := val) (Wk := Wk) (Rk := Rk) (pr := pr) (kn := kn) (fd := fd) (fr := fr) (fq := fq) Ch Wk ((m_med P Tm 11 0 (j + 1) Rk).1) (m_pr (Bt j) (Tm j - Tm (m_anc P (Hh j - (Hh j - 7)) j)) pr) kn fd fr fq (tp' := tp) (P' := P) (Hh' := Hh) (Tm' := Tm) (Bt' := Bt) (Zb' := Zb) (n' := n) (val' := val) (c_add_timeR l D cI cJ cZ (ad 0) rm n tp (ad 1) (ad 2) (ad 3) (ad 4) (ad 5) (ad 6) (ad 7) (ad 8) (ad 9) (ad 11) P Hh Tm Bt Zb Rk (ad 10) pr j t b (by omega) (by omega) hj hbj hz h8 (hb.trans eC.symm) k9 hpar) [0, 1, 2, 4, 5, 6, 8, 9, 10] [3, 7, 11, 12, 13, 14] [6, 7, 8, 0, 9, 10, 11, 1, 12, 13, 14, 2, 3, 4, 5] rfl rfl rfl rfl rfl rfl (by decide) rfl rfl (invC_pr hC (lim_pr gv ev ⟨hp, lp⟩)))
            by_cases h9 : 4294967295 < t
            · exact ⟨(-4), n, tp, P, Hh, Tm, Bt, Zb, val, hI, q1, (mW (ae := ae) (rm := rm) (n := n) (P := P) (Hh := Hh) (Tm := Tm) (Bt := Bt) (Zb := Zb) (val := val) (Sm := Sm) (α := α) (β := β) (γ := γ) (Rk2 := Rk2) Sm (r_mustA v0 (Tm j - Tm (m_anc P (Hh j - (Hh j - 7)) j)) α) (r_open 545259519 β) γ Rk2 (k_add_lateR l D cI cJ cZ (ae 0) rm n (ae 1) (ae 2) (ae 3) (ae 4) (ae 5) (ae 6) (ae 7) (ae 8) (ae 9) (ae 10) P Hh Tm Bt α β Zb Rk2 j t b v0 (by omega) hj hbj hz h8 ev gv.1 m2 m3 (hb.trans eM.symm) h9 hpar hH0 hHs hHb) [0, 1, 2, 3, 4, 7, 8, 5, 10] [6, 9] [2, 3, 4, 5, 6, 9, 0, 7, 8, 1, 10] rfl rfl rfl rfl rfl rfl (by decide) rfl rfl (⟨m1, r_mustA_by m2, r_open_by m3, m4, m5⟩))⟩
            · have k8 : ¬ (m_med P Tm 11 0 (j + 1) Rk2).1 ((m_med P Tm 11 0 (j + 1) Rk2).2 / 2) < t := by rw [m8]; exact fun z => ht ⟨z, Int64.not_lt.mp h9⟩
              exact ⟨(-4), n, tp, P, Hh, Tm, Bt, Zb, val, hI, q1, (mW (ae := ae) (rm := rm) (n := n) (P := P) (Hh := Hh) (Tm := Tm) (Bt := Bt) (Zb := Zb) (val := val) (Sm := Sm) (α := α) (β := β) (γ := γ) (Rk2 := Rk2) Sm (r_mustA v0 (Tm j - Tm (m_anc P (Hh j - (Hh j - 7)) j)) α) (r_open 545259519 β) γ ((m_med P Tm 11 0 (j + 1) Rk2).1) (k_add_timeR l D cI cJ cZ (ae 0) rm n (ae 1) (ae 2) (ae 3) (ae 4) (ae 5) (ae 6) (ae 7) (ae 8) (ae 9) (ae 10) P Hh Tm Bt α β Zb Rk2 j t b v0 (by omega) hj hbj hz h8 ev gv.1 m2 m3 (hb.trans eM.symm) h9 k8 hpar hH0 hHs hHb) [0, 1, 2, 3, 4, 7, 8, 5, 10] [6, 9] [2, 3, 4, 5, 6, 9, 0, 7, 8, 1, 10] rfl rfl rfl rfl rfl rfl (by decide) rfl rfl (⟨m1, r_mustA_by m2, r_open_by m3, m4, m5⟩))⟩
        · exact ⟨(-3), n, tp, P, Hh, Tm, Bt, Zb, val, hI, (cW (ad := ad) (rm := rm) (n := n) (tp := tp) (P := P) (Hh := Hh) (Ch := Ch) (Tm := Tm) (Bt := Bt) (Zb := Zb) (val := val) (Wk := Wk) (Rk := Rk) (pr := pr) (kn := kn) (fd := fd) (fr := fr) (fq := fq) Ch Wk Rk (m_pr (Bt j) (Tm j - Tm (m_anc P (Hh j - (Hh j - 7)) j)) pr) kn fd fr fq (c_add_bitsR l D cI cJ cZ (ad 0) rm n tp (ad 1) (ad 2) (ad 3) (ad 4) (ad 5) (ad 6) (ad 7) (ad 8) (ad 9) (ad 11) P Hh Tm Bt Zb Rk (ad 10) pr j t b (by omega) (by omega) hj hbj hz h8 (fun q => hb (q.trans eC)) hpar) [0, 1, 2, 4, 5, 6, 8, 9, 10] [3, 7, 11, 12, 13, 14] [6, 7, 8, 0, 9, 10, 11, 1, 12, 13, 14, 2, 3, 4, 5] rfl rfl rfl rfl rfl rfl (by decide) rfl rfl (invC_pr hC (lim_pr gv ev ⟨hp, lp⟩))), (mW (ae := ae) (rm := rm) (n := n) (P := P) (Hh := Hh) (Tm := Tm) (Bt := Bt) (Zb := Zb) (val := val) (Sm := Sm) (α := α) (β := β) (γ := γ) (Rk2 := Rk2) Sm (r_mustA v0 (Tm j - Tm (m_anc P (Hh j - (Hh j - 7)) j)) α) (r_open 545259519 β) γ Rk2 (k_add_bitsR l D cI cJ cZ (ae 0) rm n (ae 1) (ae 2) (ae 3) (ae 4) (ae 5) (ae 6) (ae 7) (ae 8) (ae 9) (ae 10) P Hh Tm Bt α β Zb Rk2 j t b v0 (by omega) hj hbj hz h8 ev gv.1 m2 m3 (fun q => hb (q.trans eM)) hpar hH0 hHs hHb) [0, 1, 2, 3, 4, 7, 8, 5, 10] [6, 9] [2, 3, 4, 5, 6, 9, 0, 7, 8, 1, 10] rfl rfl rfl rfl rfl rfl (by decide) rfl rfl (⟨m1, r_mustA_by m2, r_open_by m3, m4, m5⟩))⟩
      · have eC : Bt j = rMust P Hh Tm Bt j := by unfold rMust; rw [if_neg h8]
        have eM := eC
        by_cases hb : b = rMust P Hh Tm Bt j
        · by_cases ht : rMed P Tm j < t ∧ t ≤ 4294967295
          · have t9 := Int64.not_lt.mpr ht.2
            have k9 : (m_med P Tm 11 0 (j + 1) Rk).1 ((m_med P Tm 11 0 (j + 1) Rk).2 / 2) < t := by rw [m9]; exact ht.1
            have k8 : (m_med P Tm 11 0 (j + 1) Rk2).1 ((m_med P Tm 11 0 (j + 1) Rk2).2 / 2) < t := by rw [m8]; exact ht.1
            by_cases hf : n = rm
            · exact ⟨(-5), n, tp, P, Hh, Tm, Bt, Zb, val, hI, (cW (ad := ad) (rm := rm) (n := n) (tp := tp) (P := P) (Hh := Hh) (Ch := Ch) (Tm := Tm) (Bt := Bt) (Zb := Zb) (val := val) (Wk := Wk) (Rk := Rk) (pr := pr) (kn := kn) (fd := fd) (fr := fr) (fq := fq) Ch Wk ((m_med P Tm 11 0 (j + 1) Rk).1) pr kn fd fr fq (c_add_fullS l D cI cJ cZ (ad 0) rm n tp (ad 1) (ad 2) (ad 3) (ad 4) (ad 5) (ad 6) (ad 7) (ad 8) (ad 9) (ad 11) P Hh Tm Bt Zb Rk (ad 10) pr j t b (by omega) (by omega) hj hbj hz h8 (hb.trans eC.symm) k9 ht.2 hf hpar) [0, 1, 2, 4, 5, 6, 8, 9, 10] [3, 7, 11, 12, 13, 14] [6, 7, 8, 0, 9, 10, 11, 1, 12, 13, 14, 2, 3, 4, 5] rfl rfl rfl rfl rfl rfl (by decide) rfl rfl hC), (mW (ae := ae) (rm := rm) (n := n) (P := P) (Hh := Hh) (Tm := Tm) (Bt := Bt) (Zb := Zb) (val := val) (Sm := Sm) (α := α) (β := β) (γ := γ) (Rk2 := Rk2) Sm α β γ ((m_med P Tm 11 0 (j + 1) Rk2).1) (k_add_fullS l D cI cJ cZ (ae 0) rm n (ae 1) (ae 2) (ae 3) (ae 4) (ae 5) (ae 6) (ae 7) (ae 8) (ae 9) (ae 10) P Hh Tm Bt α β Zb Rk2 j t b (by omega) hj hbj hz h8 (hb.trans eM.symm) t9 k8 hf hpar) [0, 1, 2, 3, 4, 7, 8, 5, 10] [6, 9] [2, 3, 4, 5, 6, 9, 0, 7, 8, 1, 10] rfl rfl rfl rfl rfl rfl (by decide) rfl rfl hM)⟩
            · have hn : n < rm := by omega
              have hC3 : Ch j < 300 := by rw [c1 j hj]; have := ch_le (P := P) (j := j) n 0 0; omega
              by_cases hk : kn = b
              · subst hk
                have ek : kn = lN v := hb.trans eb
                have ev9 : vk = v := lN_inj lvk hg.1 (ek0.symm.trans ek)
                have lF := lq
                have vF : vV hq 8 = wrk v := by rw [vq, ev9]
                obtain ⟨iC, et⟩ := invC_add hI hC hj hn hg lF vF (pr' := pr) (fd' := fd) (fq' := fq) (kn' := kn) (⟨hp, lp⟩) c5 ⟨vk, hq, ek0, lvk, lq, vq⟩
                have iM := invM_add hI hM hj hg (α1 := α) (β1 := β) m2 m3
                have iI := inv_add hI hj hn hz hg
                have q1 := (c_add_okSo l D cI cJ cZ (ad 0) rm n tp (ad 1) (ad 2) (ad 3) (ad 4) (ad 5) (ad 6) (ad 7) (ad 8) (ad 9) (ad 11) P Hh Ch Tm Bt Zb Wk Rk (ad 10) pr (ad 12) (ad 13) (ad 14) kn fd fr fq j t (by omega) hn (by omega) hj hT.1 hbj hC3 hz h8 (hb.trans eC.symm) k9 ht.2 hpar)
                have q2 := (k_add_okS l D cI cJ cZ (ae 0) rm n (ae 1) (ae 2) (ae 3) (ae 4) (ae 5) (ae 6) (ae 7) (ae 8) (ae 9) (ae 10) P Hh Tm Bt Zb Sm α β γ Rk2 j t v (by omega) (by omega) hf (by omega) hj hbj hg.1 hz h8 m2 m3 m4 m1 (eb.symm.trans eM.symm) t9 k8 hpar)
                rw [et] at q1
                rw [uz_n (hzn n (Nat.le_refl _))] at q2
                rw [← ek] at q2 iI
                exact ⟨nI n, n + 1, (if updN val n (val j + wrk v) n ≤ updN val n (val j + wrk v) tp then tp else n), updN P n j, updN Hh n (Hh j + 1), vp_updL Tm n t, vp_updL Bt n kn, Zb, updN val n (val j + wrk v), iI, (cW (ad := ad) (rm := rm) (n := n) (tp := tp) (P := P) (Hh := Hh) (Ch := Ch) (Tm := Tm) (Bt := Bt) (Zb := Zb) (val := val) (Wk := Wk) (Rk := Rk) (pr := pr) (kn := kn) (fd := fd) (fr := fr) (fq := fq) (updN Ch j (Ch j + 1)) (m_sum fq n j Wk) ((m_med P Tm 11 0 (j + 1) Rk).1) pr kn fd fr fq q1 [0, 1, 2, 3, 4, 5, 6, 7, 8, 9, 10, 11, 12, 13, 14] [] [0, 1, 2, 3, 4, 5, 6, 7, 8, 9, 10, 11, 12, 13, 14] rfl rfl rfl rfl rfl rfl (by decide) rfl rfl iC), (mW (ae := ae) (rm := rm) (n := n) (P := P) (Hh := Hh) (Tm := Tm) (Bt := Bt) (Zb := Zb) (val := val) (Sm := Sm) (α := α) (β := β) (γ := γ) (Rk2 := Rk2) (r_sumL (r_quo (r_open v α) β γ).1 n j 40 0 0 Sm) ((r_quo (r_open v α) β γ).1) (r_inc (r_open v α) β) ((r_quo (r_open v α) β γ).2) ((m_med P Tm 11 0 (j + 1) Rk2).1) q2 [0, 1, 2, 3, 4, 5, 6, 7, 8, 9, 10] [] [0, 1, 2, 3, 4, 5, 6, 7, 8, 9, 10] rfl rfl rfl rfl rfl rfl (by decide) rfl rfl iM)⟩
              · have hbv : lN v = b := (hb.trans eb).symm
                subst hbv
                obtain ⟨hd, ld⟩ := c5
                obtain ⟨L, d1, d2, d3, d4, f, lF, vF⟩ := worth_C (r := fr) (q := fq) hg (by omega) ld
                obtain ⟨iC, et⟩ := invC_add hI hC hj hn hg lF vF (pr' := pr) (fd' := m_set (lN v) fd) (fq' := (m_dv (m_set (lN v) fd) fr fq (L - 2)).2) (kn' := lN v) (⟨hp, lp⟩) d4 ⟨v, f, rfl, hg.1, lF, vF⟩
                have iM := invM_add hI hM hj hg (α1 := α) (β1 := β) m2 m3
                have iI := inv_add hI hj hn hz hg
                have q1 := (c_add_okSn l D cI cJ cZ (ad 0) rm n tp (ad 1) (ad 2) (ad 3) (ad 4) (ad 5) (ad 6) (ad 7) (ad 8) (ad 9) (ad 11) P Hh Ch Tm Bt Zb Wk Rk (ad 10) pr (ad 12) (ad 13) (ad 14) kn fd fr fq j t (lN v) L (by omega) hn (by omega) hj hT.1 hbj hC3 hz h8 (hb.trans eC.symm) k9 ht.2 (fun q => hk q.symm) d1 d2 d3 hpar)
                have q2 := (k_add_okS l D cI cJ cZ (ae 0) rm n (ae 1) (ae 2) (ae 3) (ae 4) (ae 5) (ae 6) (ae 7) (ae 8) (ae 9) (ae 10) P Hh Tm Bt Zb Sm α β γ Rk2 j t v (by omega) (by omega) hf (by omega) hj hbj hg.1 hz h8 m2 m3 m4 m1 (hb.trans eM.symm) t9 k8 hpar)
                rw [et] at q1
                rw [uz_n (hzn n (Nat.le_refl _))] at q2
                exact ⟨nI n, n + 1, (if updN val n (val j + wrk v) n ≤ updN val n (val j + wrk v) tp then tp else n), updN P n j, updN Hh n (Hh j + 1), vp_updL Tm n t, vp_updL Bt n (lN v), Zb, updN val n (val j + wrk v), iI, (cW (ad := ad) (rm := rm) (n := n) (tp := tp) (P := P) (Hh := Hh) (Ch := Ch) (Tm := Tm) (Bt := Bt) (Zb := Zb) (val := val) (Wk := Wk) (Rk := Rk) (pr := pr) (kn := kn) (fd := fd) (fr := fr) (fq := fq) (updN Ch j (Ch j + 1)) (m_sum (m_dv (m_set (lN v) fd) fr fq (L - 2)).2 n j Wk) ((m_med P Tm 11 0 (j + 1) Rk).1) pr (lN v) (m_set (lN v) fd) ((m_dv (m_set (lN v) fd) fr fq (L - 2)).1) ((m_dv (m_set (lN v) fd) fr fq (L - 2)).2) q1 [0, 1, 2, 3, 4, 5, 6, 7, 8, 9, 10, 11, 12, 13, 14] [] [0, 1, 2, 3, 4, 5, 6, 7, 8, 9, 10, 11, 12, 13, 14] rfl rfl rfl rfl rfl rfl (by decide) rfl rfl iC), (mW (ae := ae) (rm := rm) (n := n) (P := P) (Hh := Hh) (Tm := Tm) (Bt := Bt) (Zb := Zb) (val := val) (Sm := Sm) (α := α) (β := β) (γ := γ) (Rk2 := Rk2) (r_sumL (r_quo (r_open v α) β γ).1 n j 40 0 0 Sm) ((r_quo (r_open v α) β γ).1) (r_inc (r_open v α) β) ((r_quo (r_open v α) β γ).2) ((m_med P Tm 11 0 (j + 1) Rk2).1) q2 [0, 1, 2, 3, 4, 5, 6, 7, 8, 9, 10] [] [0, 1, 2, 3, 4, 5, 6, 7, 8, 9, 10] rfl rfl rfl rfl rfl rfl (by decide) rfl rfl iM)⟩
          · have k9 : ¬ ((m_med P Tm 11 0 (j + 1) Rk).1 ((m_med P Tm 11 0 (j + 1) Rk).2 / 2) < t ∧ t ≤ 4294967295) := by rw [m9]; exact ht
            have q1 := (cW (ad := ad) (rm := rm) (n := n) (tp := tp) (P := P) (Hh := Hh) (Ch := Ch) (Tm := Tm) (Bt := Bt) (Zb := Zb) (val := val) (Wk := Wk) (Rk := Rk) (pr := pr) (kn := kn) (fd := fd) (fr := fr) (fq := fq) Ch Wk ((m_med P Tm 11 0 (j + 1) Rk).1) pr kn fd fr fq (tp' := tp) (P' := P) (Hh' := Hh) (Tm' := Tm) (Bt' := Bt) (Zb' := Zb) (n' := n) (val' := val) (c_add_timeS l D cI cJ cZ (ad 0) rm n tp (ad 1) (ad 2) (ad 3) (ad 4) (ad 5) (ad 6) (ad 7) (ad 8) (ad 9) (ad 11) P Hh Tm Bt Zb Rk (ad 10) pr j t b (by omega) (by omega) hj hbj hz h8 (hb.trans eC.symm) k9 hpar) [0, 1, 2, 4, 5, 6, 8, 9, 10] [3, 7, 11, 12, 13, 14] [6, 7, 8, 0, 9, 10, 11, 1, 12, 13, 14, 2, 3, 4, 5] rfl rfl rfl rfl rfl rfl (by decide) rfl rfl hC)
            by_cases h9 : 4294967295 < t
            · exact ⟨(-4), n, tp, P, Hh, Tm, Bt, Zb, val, hI, q1, (mS (ae := ae) (rm := rm) (n := n) (P := P) (Hh := Hh) (Tm := Tm) (Bt := Bt) (Zb := Zb) (val := val) (Sm := Sm) (α := α) (β := β) (γ := γ) (Rk2 := Rk2) (k_add_lateS l D cI cJ cZ (ae 0) rm n (ae 1) (ae 2) (ae 3) (ae 4) (ae 5) (ae 6) (ae 7) (ae 8) (ae 9) (ae 10) Hh Bt Zb j t b (by omega) hj hbj hz h8 (hb.trans eM.symm) h9) [0, 2, 4, 5] rfl hM)⟩
            · have k8 : ¬ (m_med P Tm 11 0 (j + 1) Rk2).1 ((m_med P Tm 11 0 (j + 1) Rk2).2 / 2) < t := by rw [m8]; exact fun z => ht ⟨z, Int64.not_lt.mp h9⟩
              exact ⟨(-4), n, tp, P, Hh, Tm, Bt, Zb, val, hI, q1, (mW (ae := ae) (rm := rm) (n := n) (P := P) (Hh := Hh) (Tm := Tm) (Bt := Bt) (Zb := Zb) (val := val) (Sm := Sm) (α := α) (β := β) (γ := γ) (Rk2 := Rk2) Sm α β γ ((m_med P Tm 11 0 (j + 1) Rk2).1) (k_add_timeS l D cI cJ cZ (ae 0) rm n (ae 1) (ae 2) (ae 3) (ae 4) (ae 5) (ae 6) (ae 7) (ae 8) (ae 9) (ae 10) P Hh Tm Bt α β Zb Rk2 j t b (by omega) hj hbj hz h8 (hb.trans eM.symm) h9 k8 hpar) [0, 1, 2, 3, 4, 7, 8, 5, 10] [6, 9] [2, 3, 4, 5, 6, 9, 0, 7, 8, 1, 10] rfl rfl rfl rfl rfl rfl (by decide) rfl rfl hM)⟩
        · exact ⟨(-3), n, tp, P, Hh, Tm, Bt, Zb, val, hI, (cS (ad := ad) (rm := rm) (n := n) (tp := tp) (P := P) (Hh := Hh) (Ch := Ch) (Tm := Tm) (Bt := Bt) (Zb := Zb) (val := val) (Wk := Wk) (Rk := Rk) (pr := pr) (kn := kn) (fd := fd) (fr := fr) (fq := fq) (c_add_bitsS l D cI cJ cZ (ad 0) rm n tp (ad 1) (ad 2) (ad 3) (ad 4) (ad 5) (ad 6) (ad 7) (ad 8) (ad 9) (ad 11) Hh Bt Zb j t b (by omega) (by omega) hj hbj hz h8 (fun q => hb (q.trans eC))) [0, 2, 5, 6] rfl hC), (mS (ae := ae) (rm := rm) (n := n) (P := P) (Hh := Hh) (Tm := Tm) (Bt := Bt) (Zb := Zb) (val := val) (Sm := Sm) (α := α) (β := β) (γ := γ) (Rk2 := Rk2) (k_add_bitsS l D cI cJ cZ (ae 0) rm n (ae 1) (ae 2) (ae 3) (ae 4) (ae 5) (ae 6) (ae 7) (ae 8) (ae 9) (ae 10) Hh Bt Zb j t b (by omega) hj hbj hz h8 (fun q => hb (q.trans eM))) [0, 2, 4, 5] rfl hM)⟩
    · exact ⟨(-2), n, tp, P, Hh, Tm, Bt, Zb, val, hI, (cS (ad := ad) (rm := rm) (n := n) (tp := tp) (P := P) (Hh := Hh) (Ch := Ch) (Tm := Tm) (Bt := Bt) (Zb := Zb) (val := val) (Wk := Wk) (Rk := Rk) (pr := pr) (kn := kn) (fd := fd) (fr := fr) (fq := fq) (c_add_bad l D cI cJ cZ (ad 0) rm n tp (ad 1) (ad 2) (ad 3) (ad 4) (ad 5) (ad 6) (ad 7) (ad 8) (ad 9) (ad 11) Zb j t b (by omega) (by omega) hj hz (hz2 j)) [0, 6] rfl hC), (mS (ae := ae) (rm := rm) (n := n) (P := P) (Hh := Hh) (Tm := Tm) (Bt := Bt) (Zb := Zb) (val := val) (Sm := Sm) (α := α) (β := β) (γ := γ) (Rk2 := Rk2) (k_add_bad l D cI cJ cZ (ae 0) rm n (ae 1) (ae 2) (ae 3) (ae 4) (ae 5) (ae 6) (ae 7) (ae 8) (ae 9) (ae 10) Zb j t b (by omega) hj hz (hz2 j)) [0, 5] rfl hM)⟩
  · exact ⟨(-1), n, tp, P, Hh, Tm, Bt, Zb, val, hI, (cS (ad := ad) (rm := rm) (n := n) (tp := tp) (P := P) (Hh := Hh) (Ch := Ch) (Tm := Tm) (Bt := Bt) (Zb := Zb) (val := val) (Wk := Wk) (Rk := Rk) (pr := pr) (kn := kn) (fd := fd) (fr := fr) (fq := fq) (c_add_nob l D cI cJ cZ (ad 0) rm n tp (ad 1) (ad 2) (ad 3) (ad 4) (ad 5) (ad 6) (ad 7) (ad 8) (ad 9) (ad 11) x t b hx) [0] rfl hC), (mS (ae := ae) (rm := rm) (n := n) (P := P) (Hh := Hh) (Tm := Tm) (Bt := Bt) (Zb := Zb) (val := val) (Sm := Sm) (α := α) (β := β) (γ := γ) (Rk2 := Rk2) (k_add_nob l D cI cJ cZ (ae 0) rm n (ae 1) (ae 2) (ae 3) (ae 4) (ae 5) (ae 6) (ae 7) (ae 8) (ae 9) (ae 10) x t b hx) [0] rfl hM)⟩
