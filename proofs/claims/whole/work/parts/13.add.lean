abbrev rm_c_add_okSn : Room := { frames := 7, cells := 0, slots := 0, locals := 156 }
set_option maxRecDepth 100000 in
set_option maxHeartbeats 4000000 in
theorem c_add_okSn (l : Launch) (D : va_G) (cI cJ cZ : ClassId) (o : Nat) (rm : Nat) (n : Nat) (bs : Nat) (aP : Nat) (aH : Nat) (aC : Nat) (aT : Nat) (aB : Nat) (aZ : Nat) (aW : Nat) (aR : Nat) (oR : Nat) (oW : Nat) (P : Nat → Nat) (Hh : Nat → Nat) (Ch : Nat → Nat) (Tm : Nat → Int64) (Bt : Nat → Int64) (Zb : Nat → Nat) (Wk : Nat → Int64) (Rk : Nat → Int64) (aQ : Nat) (pr : Nat → Int64) (dv : Nat) (rs : Nat) (qt : Nat) (kn : Int64) (fd : Nat → Int64) (fr : Nat → Int64) (fq : Nat → Int64) (j : Nat) (t : Int64) (b : Int64) (Ld : Nat) (hn0 : 0 < n) (hn3 : n < rm) (hr3 : rm ≤ 300) (hj : j < n) (hbs : bs < n) (hHj : Hh j < 300) (hCj : Ch j < 300) (hz0 : Zb j = 0) (h8 : ¬ (Hh j + 1) % 8 = 0) (hb9 : b = Bt j) (ht9 : (m_med P Tm 11 0 (j + 1) Rk).1 ((m_med P Tm 11 0 (j + 1) Rk).2 / 2) < t) (ht8 : t ≤ 4294967295) (hk9 : ¬ b = kn) (hLd : m_dlen (m_set b fd) 8 0 = nI Ld) (hL2 : 2 ≤ Ld) (hL6 : Ld ≤ 256) (hpar : ∀ x : Nat, 0 < x → x < n → P x < x) : rw_C l yT_add wT_add rm_c_add_okSn D vwCl (gT cI cJ cZ) [.ref o, .int (nI j), .long t, .long b] [(o, .inr (2, [.int (nI rm), .int (nI n), .int (nI bs), .ref aP, .ref aH, .ref aC, .ref aT, .ref aB, .ref aZ, .ref aW, .ref aR, .ref oR, .ref oW])), (aP, .inl (cI, rm, .inl (pF P))), (aH, .inl (cI, rm, .inl (nF Hh))), (aC, .inl (cI, rm, .inl (nF Ch))), (aT, .inl (cJ, rm, .inr (.inl Tm))), (aB, .inl (cJ, rm, .inr (.inl Bt))), (aZ, .inl (cZ, rm, .inl (nF Zb))), (aW, .inl (cJ, rm * 8, .inr (.inl Wk))), (aR, .inl (cJ, 11, .inr (.inl Rk))), (oR, .inr (0, [.ref aQ])), (aQ, .inl (cJ, 9, .inr (.inl pr))), (oW, .inr (1, [.ref dv, .ref rs, .ref qt, .long kn])), (dv, .inl (cJ, 8, .inr (.inl fd))), (rs, .inl (cJ, 8, .inr (.inl fr))), (qt, .inl (cJ, 8, .inr (.inl fq)))] (fun v9 w9 => v9 = some (.int (nI n)) ∧ w9 = [(o, .inr (2, [.int (nI rm), .int (nI (n + 1)), .int (nI (if m_cmp (m_sum ((m_dv (m_set b fd) fr fq (Ld - 2)).2) n j Wk) n bs 8 0 ≤ 0 then bs else n)), .ref aP, .ref aH, .ref aC, .ref aT, .ref aB, .ref aZ, .ref aW, .ref aR, .ref oR, .ref oW])), (aP, .inl (cI, rm, .inl (pF (updN P n j)))), (aH, .inl (cI, rm, .inl (nF (updN Hh n (Hh j + 1))))), (aC, .inl (cI, rm, .inl (nF (updN Ch j (Ch j + 1))))), (aT, .inl (cJ, rm, .inr (.inl (vp_updL Tm n t)))), (aB, .inl (cJ, rm, .inr (.inl (vp_updL Bt n b)))), (aZ, .inl (cZ, rm, .inl (nF Zb))), (aW, .inl (cJ, rm * 8, .inr (.inl (m_sum ((m_dv (m_set b fd) fr fq (Ld - 2)).2) n j Wk)))), (aR, .inl (cJ, 11, .inr (.inl ((m_med P Tm 11 0 (j + 1) Rk).1)))), (oR, .inr (0, [.ref aQ])), (aQ, .inl (cJ, 9, .inr (.inl pr))), (oW, .inr (1, [.ref dv, .ref rs, .ref qt, .long b])), (dv, .inl (cJ, 8, .inr (.inl (m_set b fd)))), (rs, .inl (cJ, 8, .inr (.inl ((m_dv (m_set b fd) fr fq (Ld - 2)).1)))), (qt, .inl (cJ, 8, .inr (.inl ((m_dv (m_set b fd) fr fq (Ld - 2)).2))))]) 0 0 := by
  refine rw_of (cc := cT_add) (maxL := 6) (ret := some .int) (by decide) rfl (Nat.le_of_ble_eq_true rfl) ?_
  intro p e s m args below meth c Q A ls hx hb hr hml hown hts hlocks hin hK hP hD hA hl hQ
  have hS : va_S A s.heap s.heap [] := va_S.rf
  have hl : lv_has ls 6 [(0, .ref o), (1, .int (nI j)), (2, .long t), (4, .long b)] := hl
  have hown : s.vm.findClass RT = some m.cls := hown
  obtain ⟨H, hHe⟩ : ∃ H : Heap, H = s.heap := ⟨_, rfl⟩
  rw [← hHe] at hP
  have hS : va_S A s.heap H [] := by rw [hHe]; exact va_S.rf
  suffices h9 : W p l e rm_c_add_okSn s m args below meth c H [] 0 0 Q (F0 m 0 ls []) by rw [hHe] at h9; exact h9
  clear hHe
  refine lv_aload_n hx hb dT_add_0 rfl (lv_at hl 0 rfl) ?_
  refine lv_iload_n hx hb dT_add_1 rfl (lv_at hl 1 rfl) ?_
  refine ro_ki (va_runV (As := [.int (nI j)]) (rest := []) ⟨hx, hb, hml, hown, hts⟩ (c_isBlock_ok l D cI cJ cZ o rm n bs aP aH aC aT aB aZ aW aR oR oW j (by omega) (by omega)) (cwV 1 hts gT_add_T_isBlock_76 rfl rfl rfl (by decide +kernel) ⟨Nat.le_of_ble_eq_true rfl, Nat.le_of_ble_eq_true rfl⟩) (ro_preV (hP.sub [0] rfl) hK (va_recv hK hP (ci := 2) (q0 := 0) rfl rfl)) rfl rfl hl.1 rfl (lv_room (Nat.le_of_ble_eq_true rfl)) dT_add_2 ⟨Nat.le_of_ble_eq_true rfl, Nat.le_of_ble_eq_true rfl⟩) ?_
  refine lv_if_ne (tgt := 10) hx hb dT_add_5 (by decide) (fun c_5 => ?_) (fun c_5 => ?_)
  · skip
    rw [← nI_0] at c_5
    have c_5 : ¬ 1 = 0 := n_ne c_5
    refine lv_aload_n hx hb dT_add_10 rfl (lv_at hl 0 rfl) ?_
    refine va_get (D := D) (ci := 2) (v := .ref aZ) (C := RT) (T := TT) (N := 13) hx hb hts iT_add_T hown hK hP 0 rfl rfl 8 (by decide) (hts (.fieldLink RT 30 "TreeDesk" "bad" "[Z") (by decide +kernel)) (fun _ h9 => h9) rfl dT_add_11 ?_
    refine lv_iload_n hx hb dT_add_14 rfl (lv_at hl 1 rfl) ?_
    refine ar_zld (j := j) hx hb hK hP 6 2 rfl rfl dT_add_15 (by omega) (by omega) ?_
    refine tp_i (y := nI (Zb j)) rfl ?_
    refine lv_if_eq (tgt := 22) hx hb dT_add_16 (by decide) (fun c_16 => ?_) (fun c_16 => ?_)
    · skip
      rw [← nI_0] at c_16
      have c_16 : (Zb j) = 0 := n_eq c_16 (by omega) (by omega)
      refine lv_lload hx hb dT_add_22 (lv_at hl 3 rfl) ?_
      refine lv_aload_n hx hb dT_add_24 rfl (lv_at hl 0 rfl) ?_
      refine lv_iload_n hx hb dT_add_25 rfl (lv_at hl 1 rfl) ?_
      refine ro_kl (va_runV (As := [.int (nI j)]) (rest := [.long b]) ⟨hx, hb, hml, hown, hts⟩ (c_must_same l D cI cJ cZ o rm n bs aP aH aC aT aB aZ aW aR oR oW Hh Bt j (by omega) (by omega) (by omega) (by omega) h8) (cwV 1 hts gT_add_T_must_80 rfl rfl rfl (by decide +kernel) ⟨Nat.le_of_ble_eq_true rfl, Nat.le_of_ble_eq_true rfl⟩) (ro_preV (hP.sub [0, 2, 5] rfl) hK (va_recv hK hP (ci := 2) (q0 := 0) rfl rfl)) rfl rfl hl.1 rfl (lv_room (Nat.le_of_ble_eq_true rfl)) dT_add_26 ⟨Nat.le_of_ble_eq_true rfl, Nat.le_of_ble_eq_true rfl⟩) ?_
      refine lc_eq (tgt := 36) hx hb dT_add_29 dT_add_30 (by decide) (fun c_30 => ?_) (fun c_30 => ?_)
      · skip
        refine lv_lload_n hx hb dT_add_36 rfl (lv_at hl 2 rfl) ?_
        refine lv_aload_n hx hb dT_add_37 rfl (lv_at hl 0 rfl) ?_
        refine lv_iload_n hx hb dT_add_38 rfl (lv_at hl 1 rfl) ?_
        refine rw_k (wc := [(o, .inr (2, [.int (nI rm), .int (nI n), .int (nI bs), .ref aP, .ref aH, .ref aC, .ref aT, .ref aB, .ref aZ, .ref aW, .ref aR, .ref oR, .ref oW])), (aP, .inl (cI, rm, .inl (pF P))), (aT, .inl (cJ, rm, .inr (.inl Tm))), (aR, .inl (cJ, 11, .inr (.inl Rk)))]) (wr := [(aH, .inl (cI, rm, .inl (nF Hh))), (aC, .inl (cI, rm, .inl (nF Ch))), (aB, .inl (cJ, rm, .inr (.inl Bt))), (aZ, .inl (cZ, rm, .inl (nF Zb))), (aW, .inl (cJ, rm * 8, .inr (.inl Wk))), (oR, .inr (0, [.ref aQ])), (aQ, .inl (cJ, 9, .inr (.inl pr))), (oW, .inr (1, [.ref dv, .ref rs, .ref qt, .long kn])), (dv, .inl (cJ, 8, .inr (.inl fd))), (rs, .inl (cJ, 8, .inr (.inl fr))), (qt, .inl (cJ, 8, .inr (.inl fq)))]) (va_runV (As := [.int (nI j)]) (rest := [.long t]) ⟨hx, hb, hml, hown, hts⟩ (c_median_ok l D cI cJ cZ o rm n bs aP aH aC aT aB aZ aW aR oR oW P Tm Rk j (by omega) (by omega) (by omega) hpar H.size) (cwV 1 hts gT_add_T_median_84 rfl rfl rfl (by decide +kernel) ⟨Nat.le_of_ble_eq_true rfl, Nat.le_of_ble_eq_true rfl⟩) (rw_preV (hP.sub [0, 1, 4, 8] rfl) hK (hD.sub [0, 1, 4, 8] (by decide) rfl) (va_recv hK hP (ci := 2) (q0 := 0) rfl rfl)) rfl rfl hl.1 rfl (lv_room (Nat.le_of_ble_eq_true rfl)) dT_add_39 ⟨Nat.le_of_ble_eq_true rfl, Nat.le_of_ble_eq_true rfl⟩) hP hD hS hA [0, 1, 4, 8] [2, 3, 5, 6, 7, 9, 10, 11, 12, 13, 14] rfl rfl (by decide) (by decide) (fun v9 w9 H locs hp9 hP hD hS => ?_)
        obtain ⟨rfl, rfl⟩ := hp9
        have hP : va_P D vwCl [(aH, .inl (cI, rm, .inl (nF Hh))), (aC, .inl (cI, rm, .inl (nF Ch))), (aB, .inl (cJ, rm, .inr (.inl Bt))), (aZ, .inl (cZ, rm, .inl (nF Zb))), (aW, .inl (cJ, rm * 8, .inr (.inl Wk))), (oR, .inr (0, [.ref aQ])), (aQ, .inl (cJ, 9, .inr (.inl pr))), (oW, .inr (1, [.ref dv, .ref rs, .ref qt, .long kn])), (dv, .inl (cJ, 8, .inr (.inl fd))), (rs, .inl (cJ, 8, .inr (.inl fr))), (qt, .inl (cJ, 8, .inr (.inl fq))), (o, .inr (2, [.int (nI rm), .int (nI n), .int (nI bs), .ref aP, .ref aH, .ref aC, .ref aT, .ref aB, .ref aZ, .ref aW, .ref aR, .ref oR, .ref oW])), (aP, .inl (cI, rm, .inl (pF P))), (aT, .inl (cJ, rm, .inr (.inl Tm))), (aR, .inl (cJ, 11, .inr (.inl ((m_med P Tm 11 0 (j + 1) Rk).1))))] H := hP
        have hD : va_D A [(aH, .inl (cI, rm, .inl (nF Hh))), (aC, .inl (cI, rm, .inl (nF Ch))), (aB, .inl (cJ, rm, .inr (.inl Bt))), (aZ, .inl (cZ, rm, .inl (nF Zb))), (aW, .inl (cJ, rm * 8, .inr (.inl Wk))), (oR, .inr (0, [.ref aQ])), (aQ, .inl (cJ, 9, .inr (.inl pr))), (oW, .inr (1, [.ref dv, .ref rs, .ref qt, .long kn])), (dv, .inl (cJ, 8, .inr (.inl fd))), (rs, .inl (cJ, 8, .inr (.inl fr))), (qt, .inl (cJ, 8, .inr (.inl fq))), (o, .inr (2, [.int (nI rm), .int (nI n), .int (nI bs), .ref aP, .ref aH, .ref aC, .ref aT, .ref aB, .ref aZ, .ref aW, .ref aR, .ref oR, .ref oW])), (aP, .inl (cI, rm, .inl (pF P))), (aT, .inl (cJ, rm, .inr (.inl Tm))), (aR, .inl (cJ, 11, .inr (.inl ((m_med P Tm 11 0 (j + 1) Rk).1))))] := hD
        refine W.eq (g2 := F0 m 42 ls [.long ((m_med P Tm 11 0 (j + 1) Rk).1 ((m_med P Tm 11 0 (j + 1) Rk).2 / 2)), .long t]) rfl ?_
        refine lc_le (tgt := 54) hx hb dT_add_42 dT_add_43 (by decide) (fun c_43 => ?_) (fun c_43 => ?_)
        · skip
          exact absurd ht9 (Int64.not_lt.mpr c_43)
        · skip
          refine lv_lload_n hx hb dT_add_46 rfl (lv_at hl 2 rfl) ?_
          refine lv_ldc2 (v := 4294967295) hx hb hown (hts (.constantLong RT 56 4294967295) (by decide +kernel)) dT_add_47 ?_
          refine lc_le (tgt := 57) hx hb dT_add_50 dT_add_51 (by decide) (fun c_51 => ?_) (fun c_51 => ?_)
          · skip
            refine lv_aload_n hx hb dT_add_57 rfl (lv_at hl 0 rfl) ?_
            refine va_get (D := D) (ci := 2) (v := .int (nI n)) (C := RT) (T := TT) (N := 13) hx hb hts iT_add_T hown hK hP 11 rfl rfl 1 (by decide) (hts (.fieldLink RT 70 "TreeDesk" "count" "I") (by decide +kernel)) (fun _ h9 => h9) rfl dT_add_58 ?_
            refine lv_aload_n hx hb dT_add_61 rfl (lv_at hl 0 rfl) ?_
            refine va_get (D := D) (ci := 2) (v := .int (nI rm)) (C := RT) (T := TT) (N := 13) hx hb hts iT_add_T hown hK hP 11 rfl rfl 0 (by decide) (hts (.fieldLink RT 9 "TreeDesk" "room" "I") (by decide +kernel)) (fun _ h9 => h9) rfl dT_add_62 ?_
            refine lv_icmp_lt (tgt := 71) hx hb dT_add_65 (by decide) (fun c_65 => ?_) (fun c_65 => ?_)
            · skip
              have c_65 : n < rm := n_lt c_65 (by omega) (by omega)
              refine lv_aload_n hx hb dT_add_71 rfl (lv_at hl 0 rfl) ?_
              refine lv_iload_n hx hb dT_add_72 rfl (lv_at hl 1 rfl) ?_
              refine lv_lload_n hx hb dT_add_73 rfl (lv_at hl 2 rfl) ?_
              refine lv_lload hx hb dT_add_74 (lv_at hl 3 rfl) ?_
              refine rw_k (wc := [(o, .inr (2, [.int (nI rm), .int (nI n), .int (nI bs), .ref aP, .ref aH, .ref aC, .ref aT, .ref aB, .ref aZ, .ref aW, .ref aR, .ref oR, .ref oW])), (aP, .inl (cI, rm, .inl (pF P))), (aH, .inl (cI, rm, .inl (nF Hh))), (aC, .inl (cI, rm, .inl (nF Ch))), (aT, .inl (cJ, rm, .inr (.inl Tm))), (aB, .inl (cJ, rm, .inr (.inl Bt))), (aW, .inl (cJ, rm * 8, .inr (.inl Wk))), (oW, .inr (1, [.ref dv, .ref rs, .ref qt, .long kn])), (dv, .inl (cJ, 8, .inr (.inl fd))), (rs, .inl (cJ, 8, .inr (.inl fr))), (qt, .inl (cJ, 8, .inr (.inl fq)))]) (wr := [(aZ, .inl (cZ, rm, .inl (nF Zb))), (oR, .inr (0, [.ref aQ])), (aQ, .inl (cJ, 9, .inr (.inl pr))), (aR, .inl (cJ, 11, .inr (.inl ((m_med P Tm 11 0 (j + 1) Rk).1))))]) (va_runV (As := [.int (nI j), .long t, .long b]) (rest := []) ⟨hx, hb, hml, hown, hts⟩ (c_append_new l D cI cJ cZ o rm n bs aP aH aC aT aB aZ aW aR oR oW P Hh Ch Tm Bt Wk dv rs qt kn fd fr fq j t b Ld (by omega) (by omega) (by omega) (by omega) (by omega) (by omega) (by omega) hk9 hLd hL2 hL6 H.size) (cwV 3 hts gT_add_T_append_87 rfl rfl rfl (by decide +kernel) ⟨Nat.le_of_ble_eq_true rfl, Nat.le_of_ble_eq_true rfl⟩) (rw_preV (hP.sub [11, 12, 0, 1, 13, 2, 4, 7, 8, 9, 10] rfl) hK (hD.sub [11, 12, 0, 1, 13, 2, 4, 7, 8, 9, 10] (by decide) rfl) (va_recv hK hP (ci := 2) (q0 := 11) rfl rfl)) rfl rfl hl.1 rfl (lv_room (Nat.le_of_ble_eq_true rfl)) dT_add_76 ⟨Nat.le_of_ble_eq_true rfl, Nat.le_of_ble_eq_true rfl⟩) hP hD hS hA [11, 12, 0, 1, 13, 2, 4, 7, 8, 9, 10] [3, 5, 6, 14] rfl rfl (by decide) (by decide) (fun v9 w9 H locs hp9 hP hD hS => ?_)
              obtain ⟨rfl, rfl⟩ := hp9
              have hP : va_P D vwCl [(aZ, .inl (cZ, rm, .inl (nF Zb))), (oR, .inr (0, [.ref aQ])), (aQ, .inl (cJ, 9, .inr (.inl pr))), (aR, .inl (cJ, 11, .inr (.inl ((m_med P Tm 11 0 (j + 1) Rk).1)))), (o, .inr (2, [.int (nI rm), .int (nI (n + 1)), .int (nI (if m_cmp (m_sum ((m_dv (m_set b fd) fr fq (Ld - 2)).2) n j Wk) n bs 8 0 ≤ 0 then bs else n)), .ref aP, .ref aH, .ref aC, .ref aT, .ref aB, .ref aZ, .ref aW, .ref aR, .ref oR, .ref oW])), (aP, .inl (cI, rm, .inl (pF (updN P n j)))), (aH, .inl (cI, rm, .inl (nF (updN Hh n (Hh j + 1))))), (aC, .inl (cI, rm, .inl (nF (updN Ch j (Ch j + 1))))), (aT, .inl (cJ, rm, .inr (.inl (vp_updL Tm n t)))), (aB, .inl (cJ, rm, .inr (.inl (vp_updL Bt n b)))), (aW, .inl (cJ, rm * 8, .inr (.inl (m_sum ((m_dv (m_set b fd) fr fq (Ld - 2)).2) n j Wk)))), (oW, .inr (1, [.ref dv, .ref rs, .ref qt, .long b])), (dv, .inl (cJ, 8, .inr (.inl (m_set b fd)))), (rs, .inl (cJ, 8, .inr (.inl ((m_dv (m_set b fd) fr fq (Ld - 2)).1)))), (qt, .inl (cJ, 8, .inr (.inl ((m_dv (m_set b fd) fr fq (Ld - 2)).2))))] H := hP
              have hD : va_D A [(aZ, .inl (cZ, rm, .inl (nF Zb))), (oR, .inr (0, [.ref aQ])), (aQ, .inl (cJ, 9, .inr (.inl pr))), (aR, .inl (cJ, 11, .inr (.inl ((m_med P Tm 11 0 (j + 1) Rk).1)))), (o, .inr (2, [.int (nI rm), .int (nI (n + 1)), .int (nI (if m_cmp (m_sum ((m_dv (m_set b fd) fr fq (Ld - 2)).2) n j Wk) n bs 8 0 ≤ 0 then bs else n)), .ref aP, .ref aH, .ref aC, .ref aT, .ref aB, .ref aZ, .ref aW, .ref aR, .ref oR, .ref oW])), (aP, .inl (cI, rm, .inl (pF (updN P n j)))), (aH, .inl (cI, rm, .inl (nF (updN Hh n (Hh j + 1))))), (aC, .inl (cI, rm, .inl (nF (updN Ch j (Ch j + 1))))), (aT, .inl (cJ, rm, .inr (.inl (vp_updL Tm n t)))), (aB, .inl (cJ, rm, .inr (.inl (vp_updL Bt n b)))), (aW, .inl (cJ, rm * 8, .inr (.inl (m_sum ((m_dv (m_set b fd) fr fq (Ld - 2)).2) n j Wk)))), (oW, .inr (1, [.ref dv, .ref rs, .ref qt, .long b])), (dv, .inl (cJ, 8, .inr (.inl (m_set b fd)))), (rs, .inl (cJ, 8, .inr (.inl ((m_dv (m_set b fd) fr fq (Ld - 2)).1)))), (qt, .inl (cJ, 8, .inr (.inl ((m_dv (m_set b fd) fr fq (Ld - 2)).2))))] := hD
              refine W.eq (g2 := F0 m 79 ls [.int (nI n)]) rfl ?_
              exact rw_iret (w := [(o, .inr (2, [.int (nI rm), .int (nI (n + 1)), .int (nI (if m_cmp (m_sum ((m_dv (m_set b fd) fr fq (Ld - 2)).2) n j Wk) n bs 8 0 ≤ 0 then bs else n)), .ref aP, .ref aH, .ref aC, .ref aT, .ref aB, .ref aZ, .ref aW, .ref aR, .ref oR, .ref oW])), (aP, .inl (cI, rm, .inl (pF (updN P n j)))), (aH, .inl (cI, rm, .inl (nF (updN Hh n (Hh j + 1))))), (aC, .inl (cI, rm, .inl (nF (updN Ch j (Ch j + 1))))), (aT, .inl (cJ, rm, .inr (.inl (vp_updL Tm n t)))), (aB, .inl (cJ, rm, .inr (.inl (vp_updL Bt n b)))), (aZ, .inl (cZ, rm, .inl (nF Zb))), (aW, .inl (cJ, rm * 8, .inr (.inl (m_sum ((m_dv (m_set b fd) fr fq (Ld - 2)).2) n j Wk)))), (aR, .inl (cJ, 11, .inr (.inl ((m_med P Tm 11 0 (j + 1) Rk).1)))), (oR, .inr (0, [.ref aQ])), (aQ, .inl (cJ, 9, .inr (.inl pr))), (oW, .inr (1, [.ref dv, .ref rs, .ref qt, .long b])), (dv, .inl (cJ, 8, .inr (.inl (m_set b fd)))), (rs, .inl (cJ, 8, .inr (.inl ((m_dv (m_set b fd) fr fq (Ld - 2)).1)))), (qt, .inl (cJ, 8, .inr (.inl ((m_dv (m_set b fd) fr fq (Ld - 2)).2))))]) hQ hx hb hr hlocks dT_add_79 (hP.sub [4, 5, 6, 7, 8, 9, 0, 10, 3, 1, 2, 11, 12, 13, 14] rfl) (hD.sub [4, 5, 6, 7, 8, 9, 0, 10, 3, 1, 2, 11, 12, 13, 14] (by decide) rfl) hS ⟨rfl, rfl⟩
            · skip
              have c_65 : rm ≤ n := n_nlt c_65 (by omega) (by omega)
              omega
          · skip
            exact absurd ht8 c_51
      · skip
        exact absurd hb9 c_30
    · skip
      rw [← nI_0] at c_16
      have c_16 : ¬ (Zb j) = 0 := n_ne c_16
      omega
  · skip
    rw [← nI_0] at c_5
    have c_5 : 1 = 0 := n_eq c_5 (by omega) (by omega)
    omega

abbrev rm_c_add_okSo : Room := { frames := 7, cells := 0, slots := 0, locals := 156 }
set_option maxRecDepth 100000 in
set_option maxHeartbeats 4000000 in
theorem c_add_okSo (l : Launch) (D : va_G) (cI cJ cZ : ClassId) (o : Nat) (rm : Nat) (n : Nat) (bs : Nat) (aP : Nat) (aH : Nat) (aC : Nat) (aT : Nat) (aB : Nat) (aZ : Nat) (aW : Nat) (aR : Nat) (oR : Nat) (oW : Nat) (P : Nat → Nat) (Hh : Nat → Nat) (Ch : Nat → Nat) (Tm : Nat → Int64) (Bt : Nat → Int64) (Zb : Nat → Nat) (Wk : Nat → Int64) (Rk : Nat → Int64) (aQ : Nat) (pr : Nat → Int64) (dv : Nat) (rs : Nat) (qt : Nat) (kn : Int64) (fd : Nat → Int64) (fr : Nat → Int64) (fq : Nat → Int64) (j : Nat) (t : Int64) (hn0 : 0 < n) (hn3 : n < rm) (hr3 : rm ≤ 300) (hj : j < n) (hbs : bs < n) (hHj : Hh j < 300) (hCj : Ch j < 300) (hz0 : Zb j = 0) (h8 : ¬ (Hh j + 1) % 8 = 0) (hb9 : kn = Bt j) (ht9 : (m_med P Tm 11 0 (j + 1) Rk).1 ((m_med P Tm 11 0 (j + 1) Rk).2 / 2) < t) (ht8 : t ≤ 4294967295) (hpar : ∀ x : Nat, 0 < x → x < n → P x < x) : rw_C l yT_add wT_add rm_c_add_okSo D vwCl (gT cI cJ cZ) [.ref o, .int (nI j), .long t, .long kn] [(o, .inr (2, [.int (nI rm), .int (nI n), .int (nI bs), .ref aP, .ref aH, .ref aC, .ref aT, .ref aB, .ref aZ, .ref aW, .ref aR, .ref oR, .ref oW])), (aP, .inl (cI, rm, .inl (pF P))), (aH, .inl (cI, rm, .inl (nF Hh))), (aC, .inl (cI, rm, .inl (nF Ch))), (aT, .inl (cJ, rm, .inr (.inl Tm))), (aB, .inl (cJ, rm, .inr (.inl Bt))), (aZ, .inl (cZ, rm, .inl (nF Zb))), (aW, .inl (cJ, rm * 8, .inr (.inl Wk))), (aR, .inl (cJ, 11, .inr (.inl Rk))), (oR, .inr (0, [.ref aQ])), (aQ, .inl (cJ, 9, .inr (.inl pr))), (oW, .inr (1, [.ref dv, .ref rs, .ref qt, .long kn])), (dv, .inl (cJ, 8, .inr (.inl fd))), (rs, .inl (cJ, 8, .inr (.inl fr))), (qt, .inl (cJ, 8, .inr (.inl fq)))] (fun v9 w9 => v9 = some (.int (nI n)) ∧ w9 = [(o, .inr (2, [.int (nI rm), .int (nI (n + 1)), .int (nI (if m_cmp (m_sum fq n j Wk) n bs 8 0 ≤ 0 then bs else n)), .ref aP, .ref aH, .ref aC, .ref aT, .ref aB, .ref aZ, .ref aW, .ref aR, .ref oR, .ref oW])), (aP, .inl (cI, rm, .inl (pF (updN P n j)))), (aH, .inl (cI, rm, .inl (nF (updN Hh n (Hh j + 1))))), (aC, .inl (cI, rm, .inl (nF (updN Ch j (Ch j + 1))))), (aT, .inl (cJ, rm, .inr (.inl (vp_updL Tm n t)))), (aB, .inl (cJ, rm, .inr (.inl (vp_updL Bt n kn)))), (aZ, .inl (cZ, rm, .inl (nF Zb))), (aW, .inl (cJ, rm * 8, .inr (.inl (m_sum fq n j Wk)))), (aR, .inl (cJ, 11, .inr (.inl ((m_med P Tm 11 0 (j + 1) Rk).1)))), (oR, .inr (0, [.ref aQ])), (aQ, .inl (cJ, 9, .inr (.inl pr))), (oW, .inr (1, [.ref dv, .ref rs, .ref qt, .long kn])), (dv, .inl (cJ, 8, .inr (.inl fd))), (rs, .inl (cJ, 8, .inr (.inl fr))), (qt, .inl (cJ, 8, .inr (.inl fq)))]) 0 0 := by
  refine rw_of (cc := cT_add) (maxL := 6) (ret := some .int) (by decide) rfl (Nat.le_of_ble_eq_true rfl) ?_
  intro p e s m args below meth c Q A ls hx hb hr hml hown hts hlocks hin hK hP hD hA hl hQ
  have hS : va_S A s.heap s.heap [] := va_S.rf
  have hl : lv_has ls 6 [(0, .ref o), (1, .int (nI j)), (2, .long t), (4, .long kn)] := hl
  have hown : s.vm.findClass RT = some m.cls := hown
  obtain ⟨H, hHe⟩ : ∃ H : Heap, H = s.heap := ⟨_, rfl⟩
  rw [← hHe] at hP
  have hS : va_S A s.heap H [] := by rw [hHe]; exact va_S.rf
  suffices h9 : W p l e rm_c_add_okSo s m args below meth c H [] 0 0 Q (F0 m 0 ls []) by rw [hHe] at h9; exact h9
  clear hHe
  refine lv_aload_n hx hb dT_add_0 rfl (lv_at hl 0 rfl) ?_
  refine lv_iload_n hx hb dT_add_1 rfl (lv_at hl 1 rfl) ?_
  refine ro_ki (va_runV (As := [.int (nI j)]) (rest := []) ⟨hx, hb, hml, hown, hts⟩ (c_isBlock_ok l D cI cJ cZ o rm n bs aP aH aC aT aB aZ aW aR oR oW j (by omega) (by omega)) (cwV 1 hts gT_add_T_isBlock_76 rfl rfl rfl (by decide +kernel) ⟨Nat.le_of_ble_eq_true rfl, Nat.le_of_ble_eq_true rfl⟩) (ro_preV (hP.sub [0] rfl) hK (va_recv hK hP (ci := 2) (q0 := 0) rfl rfl)) rfl rfl hl.1 rfl (lv_room (Nat.le_of_ble_eq_true rfl)) dT_add_2 ⟨Nat.le_of_ble_eq_true rfl, Nat.le_of_ble_eq_true rfl⟩) ?_
  refine lv_if_ne (tgt := 10) hx hb dT_add_5 (by decide) (fun c_5 => ?_) (fun c_5 => ?_)
  · skip
    rw [← nI_0] at c_5
    have c_5 : ¬ 1 = 0 := n_ne c_5
    refine lv_aload_n hx hb dT_add_10 rfl (lv_at hl 0 rfl) ?_
    refine va_get (D := D) (ci := 2) (v := .ref aZ) (C := RT) (T := TT) (N := 13) hx hb hts iT_add_T hown hK hP 0 rfl rfl 8 (by decide) (hts (.fieldLink RT 30 "TreeDesk" "bad" "[Z") (by decide +kernel)) (fun _ h9 => h9) rfl dT_add_11 ?_
    refine lv_iload_n hx hb dT_add_14 rfl (lv_at hl 1 rfl) ?_
    refine ar_zld (j := j) hx hb hK hP 6 2 rfl rfl dT_add_15 (by omega) (by omega) ?_
    refine tp_i (y := nI (Zb j)) rfl ?_
    refine lv_if_eq (tgt := 22) hx hb dT_add_16 (by decide) (fun c_16 => ?_) (fun c_16 => ?_)
    · skip
      rw [← nI_0] at c_16
      have c_16 : (Zb j) = 0 := n_eq c_16 (by omega) (by omega)
      refine lv_lload hx hb dT_add_22 (lv_at hl 3 rfl) ?_
      refine lv_aload_n hx hb dT_add_24 rfl (lv_at hl 0 rfl) ?_
      refine lv_iload_n hx hb dT_add_25 rfl (lv_at hl 1 rfl) ?_
      refine ro_kl (va_runV (As := [.int (nI j)]) (rest := [.long kn]) ⟨hx, hb, hml, hown, hts⟩ (c_must_same l D cI cJ cZ o rm n bs aP aH aC aT aB aZ aW aR oR oW Hh Bt j (by omega) (by omega) (by omega) (by omega) h8) (cwV 1 hts gT_add_T_must_80 rfl rfl rfl (by decide +kernel) ⟨Nat.le_of_ble_eq_true rfl, Nat.le_of_ble_eq_true rfl⟩) (ro_preV (hP.sub [0, 2, 5] rfl) hK (va_recv hK hP (ci := 2) (q0 := 0) rfl rfl)) rfl rfl hl.1 rfl (lv_room (Nat.le_of_ble_eq_true rfl)) dT_add_26 ⟨Nat.le_of_ble_eq_true rfl, Nat.le_of_ble_eq_true rfl⟩) ?_
      refine lc_eq (tgt := 36) hx hb dT_add_29 dT_add_30 (by decide) (fun c_30 => ?_) (fun c_30 => ?_)
      · skip
        refine lv_lload_n hx hb dT_add_36 rfl (lv_at hl 2 rfl) ?_
        refine lv_aload_n hx hb dT_add_37 rfl (lv_at hl 0 rfl) ?_
        refine lv_iload_n hx hb dT_add_38 rfl (lv_at hl 1 rfl) ?_
        refine rw_k (wc := [(o, .inr (2, [.int (nI rm), .int (nI n), .int (nI bs), .ref aP, .ref aH, .ref aC, .ref aT, .ref aB, .ref aZ, .ref aW, .ref aR, .ref oR, .ref oW])), (aP, .inl (cI, rm, .inl (pF P))), (aT, .inl (cJ, rm, .inr (.inl Tm))), (aR, .inl (cJ, 11, .inr (.inl Rk)))]) (wr := [(aH, .inl (cI, rm, .inl (nF Hh))), (aC, .inl (cI, rm, .inl (nF Ch))), (aB, .inl (cJ, rm, .inr (.inl Bt))), (aZ, .inl (cZ, rm, .inl (nF Zb))), (aW, .inl (cJ, rm * 8, .inr (.inl Wk))), (oR, .inr (0, [.ref aQ])), (aQ, .inl (cJ, 9, .inr (.inl pr))), (oW, .inr (1, [.ref dv, .ref rs, .ref qt, .long kn])), (dv, .inl (cJ, 8, .inr (.inl fd))), (rs, .inl (cJ, 8, .inr (.inl fr))), (qt, .inl (cJ, 8, .inr (.inl fq)))]) (va_runV (As := [.int (nI j)]) (rest := [.long t]) ⟨hx, hb, hml, hown, hts⟩ (c_median_ok l D cI cJ cZ o rm n bs aP aH aC aT aB aZ aW aR oR oW P Tm Rk j (by omega) (by omega) (by omega) hpar H.size) (cwV 1 hts gT_add_T_median_84 rfl rfl rfl (by decide +kernel) ⟨Nat.le_of_ble_eq_true rfl, Nat.le_of_ble_eq_true rfl⟩) (rw_preV (hP.sub [0, 1, 4, 8] rfl) hK (hD.sub [0, 1, 4, 8] (by decide) rfl) (va_recv hK hP (ci := 2) (q0 := 0) rfl rfl)) rfl rfl hl.1 rfl (lv_room (Nat.le_of_ble_eq_true rfl)) dT_add_39 ⟨Nat.le_of_ble_eq_true rfl, Nat.le_of_ble_eq_true rfl⟩) hP hD hS hA [0, 1, 4, 8] [2, 3, 5, 6, 7, 9, 10, 11, 12, 13, 14] rfl rfl (by decide) (by decide) (fun v9 w9 H locs hp9 hP hD hS => ?_)
        obtain ⟨rfl, rfl⟩ := hp9
        have hP : va_P D vwCl [(aH, .inl (cI, rm, .inl (nF Hh))), (aC, .inl (cI, rm, .inl (nF Ch))), (aB, .inl (cJ, rm, .inr (.inl Bt))), (aZ, .inl (cZ, rm, .inl (nF Zb))), (aW, .inl (cJ, rm * 8, .inr (.inl Wk))), (oR, .inr (0, [.ref aQ])), (aQ, .inl (cJ, 9, .inr (.inl pr))), (oW, .inr (1, [.ref dv, .ref rs, .ref qt, .long kn])), (dv, .inl (cJ, 8, .inr (.inl fd))), (rs, .inl (cJ, 8, .inr (.inl fr))), (qt, .inl (cJ, 8, .inr (.inl fq))), (o, .inr (2, [.int (nI rm), .int (nI n), .int (nI bs), .ref aP, .ref aH, .ref aC, .ref aT, .ref aB, .ref aZ, .ref aW, .ref aR, .ref oR, .ref oW])), (aP, .inl (cI, rm, .inl (pF P))), (aT, .inl (cJ, rm, .inr (.inl Tm))), (aR, .inl (cJ, 11, .inr (.inl ((m_med P Tm 11 0 (j + 1) Rk).1))))] H := hP
        have hD : va_D A [(aH, .inl (cI, rm, .inl (nF Hh))), (aC, .inl (cI, rm, .inl (nF Ch))), (aB, .inl (cJ, rm, .inr (.inl Bt))), (aZ, .inl (cZ, rm, .inl (nF Zb))), (aW, .inl (cJ, rm * 8, .inr (.inl Wk))), (oR, .inr (0, [.ref aQ])), (aQ, .inl (cJ, 9, .inr (.inl pr))), (oW, .inr (1, [.ref dv, .ref rs, .ref qt, .long kn])), (dv, .inl (cJ, 8, .inr (.inl fd))), (rs, .inl (cJ, 8, .inr (.inl fr))), (qt, .inl (cJ, 8, .inr (.inl fq))), (o, .inr (2, [.int (nI rm), .int (nI n), .int (nI bs), .ref aP, .ref aH, .ref aC, .ref aT, .ref aB, .ref aZ, .ref aW, .ref aR, .ref oR, .ref oW])), (aP, .inl (cI, rm, .inl (pF P))), (aT, .inl (cJ, rm, .inr (.inl Tm))), (aR, .inl (cJ, 11, .inr (.inl ((m_med P Tm 11 0 (j + 1) Rk).1))))] := hD
        refine W.eq (g2 := F0 m 42 ls [.long ((m_med P Tm 11 0 (j + 1) Rk).1 ((m_med P Tm 11 0 (j + 1) Rk).2 / 2)), .long t]) rfl ?_
        refine lc_le (tgt := 54) hx hb dT_add_42 dT_add_43 (by decide) (fun c_43 => ?_) (fun c_43 => ?_)
        · skip
          exact absurd ht9 (Int64.not_lt.mpr c_43)
        · skip
          refine lv_lload_n hx hb dT_add_46 rfl (lv_at hl 2 rfl) ?_
          refine lv_ldc2 (v := 4294967295) hx hb hown (hts (.constantLong RT 56 4294967295) (by decide +kernel)) dT_add_47 ?_
          refine lc_le (tgt := 57) hx hb dT_add_50 dT_add_51 (by decide) (fun c_51 => ?_) (fun c_51 => ?_)
          · skip
            refine lv_aload_n hx hb dT_add_57 rfl (lv_at hl 0 rfl) ?_
            refine va_get (D := D) (ci := 2) (v := .int (nI n)) (C := RT) (T := TT) (N := 13) hx hb hts iT_add_T hown hK hP 11 rfl rfl 1 (by decide) (hts (.fieldLink RT 70 "TreeDesk" "count" "I") (by decide +kernel)) (fun _ h9 => h9) rfl dT_add_58 ?_
            refine lv_aload_n hx hb dT_add_61 rfl (lv_at hl 0 rfl) ?_
            refine va_get (D := D) (ci := 2) (v := .int (nI rm)) (C := RT) (T := TT) (N := 13) hx hb hts iT_add_T hown hK hP 11 rfl rfl 0 (by decide) (hts (.fieldLink RT 9 "TreeDesk" "room" "I") (by decide +kernel)) (fun _ h9 => h9) rfl dT_add_62 ?_
            refine lv_icmp_lt (tgt := 71) hx hb dT_add_65 (by decide) (fun c_65 => ?_) (fun c_65 => ?_)
            · skip
              have c_65 : n < rm := n_lt c_65 (by omega) (by omega)
              refine lv_aload_n hx hb dT_add_71 rfl (lv_at hl 0 rfl) ?_
              refine lv_iload_n hx hb dT_add_72 rfl (lv_at hl 1 rfl) ?_
              refine lv_lload_n hx hb dT_add_73 rfl (lv_at hl 2 rfl) ?_
              refine lv_lload hx hb dT_add_74 (lv_at hl 3 rfl) ?_
              refine rw_k (wc := [(o, .inr (2, [.int (nI rm), .int (nI n), .int (nI bs), .ref aP, .ref aH, .ref aC, .ref aT, .ref aB, .ref aZ, .ref aW, .ref aR, .ref oR, .ref oW])), (aP, .inl (cI, rm, .inl (pF P))), (aH, .inl (cI, rm, .inl (nF Hh))), (aC, .inl (cI, rm, .inl (nF Ch))), (aT, .inl (cJ, rm, .inr (.inl Tm))), (aB, .inl (cJ, rm, .inr (.inl Bt))), (aW, .inl (cJ, rm * 8, .inr (.inl Wk))), (oW, .inr (1, [.ref dv, .ref rs, .ref qt, .long kn])), (dv, .inl (cJ, 8, .inr (.inl fd))), (rs, .inl (cJ, 8, .inr (.inl fr))), (qt, .inl (cJ, 8, .inr (.inl fq)))]) (wr := [(aZ, .inl (cZ, rm, .inl (nF Zb))), (oR, .inr (0, [.ref aQ])), (aQ, .inl (cJ, 9, .inr (.inl pr))), (aR, .inl (cJ, 11, .inr (.inl ((m_med P Tm 11 0 (j + 1) Rk).1))))]) (va_runV (As := [.int (nI j), .long t, .long kn]) (rest := []) ⟨hx, hb, hml, hown, hts⟩ (c_append_old l D cI cJ cZ o rm n bs aP aH aC aT aB aZ aW aR oR oW P Hh Ch Tm Bt Wk dv rs qt kn fd fr fq j t (by omega) (by omega) (by omega) (by omega) (by omega) (by omega) (by omega) H.size) (cwV 3 hts gT_add_T_append_87 rfl rfl rfl (by decide +kernel) ⟨Nat.le_of_ble_eq_true rfl, Nat.le_of_ble_eq_true rfl⟩) (rw_preV (hP.sub [11, 12, 0, 1, 13, 2, 4, 7, 8, 9, 10] rfl) hK (hD.sub [11, 12, 0, 1, 13, 2, 4, 7, 8, 9, 10] (by decide) rfl) (va_recv hK hP (ci := 2) (q0 := 11) rfl rfl)) rfl rfl hl.1 rfl (lv_room (Nat.le_of_ble_eq_true rfl)) dT_add_76 ⟨Nat.le_of_ble_eq_true rfl, Nat.le_of_ble_eq_true rfl⟩) hP hD hS hA [11, 12, 0, 1, 13, 2, 4, 7, 8, 9, 10] [3, 5, 6, 14] rfl rfl (by decide) (by decide) (fun v9 w9 H locs hp9 hP hD hS => ?_)
              obtain ⟨rfl, rfl⟩ := hp9
              have hP : va_P D vwCl [(aZ, .inl (cZ, rm, .inl (nF Zb))), (oR, .inr (0, [.ref aQ])), (aQ, .inl (cJ, 9, .inr (.inl pr))), (aR, .inl (cJ, 11, .inr (.inl ((m_med P Tm 11 0 (j + 1) Rk).1)))), (o, .inr (2, [.int (nI rm), .int (nI (n + 1)), .int (nI (if m_cmp (m_sum fq n j Wk) n bs 8 0 ≤ 0 then bs else n)), .ref aP, .ref aH, .ref aC, .ref aT, .ref aB, .ref aZ, .ref aW, .ref aR, .ref oR, .ref oW])), (aP, .inl (cI, rm, .inl (pF (updN P n j)))), (aH, .inl (cI, rm, .inl (nF (updN Hh n (Hh j + 1))))), (aC, .inl (cI, rm, .inl (nF (updN Ch j (Ch j + 1))))), (aT, .inl (cJ, rm, .inr (.inl (vp_updL Tm n t)))), (aB, .inl (cJ, rm, .inr (.inl (vp_updL Bt n kn)))), (aW, .inl (cJ, rm * 8, .inr (.inl (m_sum fq n j Wk)))), (oW, .inr (1, [.ref dv, .ref rs, .ref qt, .long kn])), (dv, .inl (cJ, 8, .inr (.inl fd))), (rs, .inl (cJ, 8, .inr (.inl fr))), (qt, .inl (cJ, 8, .inr (.inl fq)))] H := hP
              have hD : va_D A [(aZ, .inl (cZ, rm, .inl (nF Zb))), (oR, .inr (0, [.ref aQ])), (aQ, .inl (cJ, 9, .inr (.inl pr))), (aR, .inl (cJ, 11, .inr (.inl ((m_med P Tm 11 0 (j + 1) Rk).1)))), (o, .inr (2, [.int (nI rm), .int (nI (n + 1)), .int (nI (if m_cmp (m_sum fq n j Wk) n bs 8 0 ≤ 0 then bs else n)), .ref aP, .ref aH, .ref aC, .ref aT, .ref aB, .ref aZ, .ref aW, .ref aR, .ref oR, .ref oW])), (aP, .inl (cI, rm, .inl (pF (updN P n j)))), (aH, .inl (cI, rm, .inl (nF (updN Hh n (Hh j + 1))))), (aC, .inl (cI, rm, .inl (nF (updN Ch j (Ch j + 1))))), (aT, .inl (cJ, rm, .inr (.inl (vp_updL Tm n t)))), (aB, .inl (cJ, rm, .inr (.inl (vp_updL Bt n kn)))), (aW, .inl (cJ, rm * 8, .inr (.inl (m_sum fq n j Wk)))), (oW, .inr (1, [.ref dv, .ref rs, .ref qt, .long kn])), (dv, .inl (cJ, 8, .inr (.inl fd))), (rs, .inl (cJ, 8, .inr (.inl fr))), (qt, .inl (cJ, 8, .inr (.inl fq)))] := hD
              refine W.eq (g2 := F0 m 79 ls [.int (nI n)]) rfl ?_
              exact rw_iret (w := [(o, .inr (2, [.int (nI rm), .int (nI (n + 1)), .int (nI (if m_cmp (m_sum fq n j Wk) n bs 8 0 ≤ 0 then bs else n)), .ref aP, .ref aH, .ref aC, .ref aT, .ref aB, .ref aZ, .ref aW, .ref aR, .ref oR, .ref oW])), (aP, .inl (cI, rm, .inl (pF (updN P n j)))), (aH, .inl (cI, rm, .inl (nF (updN Hh n (Hh j + 1))))), (aC, .inl (cI, rm, .inl (nF (updN Ch j (Ch j + 1))))), (aT, .inl (cJ, rm, .inr (.inl (vp_updL Tm n t)))), (aB, .inl (cJ, rm, .inr (.inl (vp_updL Bt n kn)))), (aZ, .inl (cZ, rm, .inl (nF Zb))), (aW, .inl (cJ, rm * 8, .inr (.inl (m_sum fq n j Wk)))), (aR, .inl (cJ, 11, .inr (.inl ((m_med P Tm 11 0 (j + 1) Rk).1)))), (oR, .inr (0, [.ref aQ])), (aQ, .inl (cJ, 9, .inr (.inl pr))), (oW, .inr (1, [.ref dv, .ref rs, .ref qt, .long kn])), (dv, .inl (cJ, 8, .inr (.inl fd))), (rs, .inl (cJ, 8, .inr (.inl fr))), (qt, .inl (cJ, 8, .inr (.inl fq)))]) hQ hx hb hr hlocks dT_add_79 (hP.sub [4, 5, 6, 7, 8, 9, 0, 10, 3, 1, 2, 11, 12, 13, 14] rfl) (hD.sub [4, 5, 6, 7, 8, 9, 0, 10, 3, 1, 2, 11, 12, 13, 14] (by decide) rfl) hS ⟨rfl, rfl⟩
            · skip
              have c_65 : rm ≤ n := n_nlt c_65 (by omega) (by omega)
              omega
          · skip
            exact absurd ht8 c_51
      · skip
        exact absurd hb9 c_30
    · skip
      rw [← nI_0] at c_16
      have c_16 : ¬ (Zb j) = 0 := n_ne c_16
      omega
  · skip
    rw [← nI_0] at c_5
    have c_5 : 1 = 0 := n_eq c_5 (by omega) (by omega)
    omega

abbrev rm_c_add_okRn : Room := { frames := 7, cells := 0, slots := 0, locals := 156 }
set_option maxRecDepth 100000 in
set_option maxHeartbeats 4000000 in
theorem c_add_okRn (l : Launch) (D : va_G) (cI cJ cZ : ClassId) (o : Nat) (rm : Nat) (n : Nat) (bs : Nat) (aP : Nat) (aH : Nat) (aC : Nat) (aT : Nat) (aB : Nat) (aZ : Nat) (aW : Nat) (aR : Nat) (oR : Nat) (oW : Nat) (P : Nat → Nat) (Hh : Nat → Nat) (Ch : Nat → Nat) (Tm : Nat → Int64) (Bt : Nat → Int64) (Zb : Nat → Nat) (Wk : Nat → Int64) (Rk : Nat → Int64) (aQ : Nat) (pr : Nat → Int64) (dv : Nat) (rs : Nat) (qt : Nat) (kn : Int64) (fd : Nat → Int64) (fr : Nat → Int64) (fq : Nat → Int64) (j : Nat) (t : Int64) (b : Int64) (Ld : Nat) (hn0 : 0 < n) (hn3 : n < rm) (hr3 : rm ≤ 300) (hj : j < n) (hbs : bs < n) (hHj : Hh j < 300) (hCj : Ch j < 300) (hz0 : Zb j = 0) (h8 : (Hh j + 1) % 8 = 0) (hb9 : b = m_next (m_pr (Bt j) (Tm j - Tm (m_anc P (Hh j - (Hh j - 7)) j)) pr)) (ht9 : (m_med P Tm 11 0 (j + 1) Rk).1 ((m_med P Tm 11 0 (j + 1) Rk).2 / 2) < t) (ht8 : t ≤ 4294967295) (hk9 : ¬ b = kn) (hLd : m_dlen (m_set b fd) 8 0 = nI Ld) (hL2 : 2 ≤ Ld) (hL6 : Ld ≤ 256) (hpar : ∀ x : Nat, 0 < x → x < n → P x < x) : rw_C l yT_add wT_add rm_c_add_okRn D vwCl (gT cI cJ cZ) [.ref o, .int (nI j), .long t, .long b] [(o, .inr (2, [.int (nI rm), .int (nI n), .int (nI bs), .ref aP, .ref aH, .ref aC, .ref aT, .ref aB, .ref aZ, .ref aW, .ref aR, .ref oR, .ref oW])), (aP, .inl (cI, rm, .inl (pF P))), (aH, .inl (cI, rm, .inl (nF Hh))), (aC, .inl (cI, rm, .inl (nF Ch))), (aT, .inl (cJ, rm, .inr (.inl Tm))), (aB, .inl (cJ, rm, .inr (.inl Bt))), (aZ, .inl (cZ, rm, .inl (nF Zb))), (aW, .inl (cJ, rm * 8, .inr (.inl Wk))), (aR, .inl (cJ, 11, .inr (.inl Rk))), (oR, .inr (0, [.ref aQ])), (aQ, .inl (cJ, 9, .inr (.inl pr))), (oW, .inr (1, [.ref dv, .ref rs, .ref qt, .long kn])), (dv, .inl (cJ, 8, .inr (.inl fd))), (rs, .inl (cJ, 8, .inr (.inl fr))), (qt, .inl (cJ, 8, .inr (.inl fq)))] (fun v9 w9 => v9 = some (.int (nI n)) ∧ w9 = [(o, .inr (2, [.int (nI rm), .int (nI (n + 1)), .int (nI (if m_cmp (m_sum ((m_dv (m_set b fd) fr fq (Ld - 2)).2) n j Wk) n bs 8 0 ≤ 0 then bs else n)), .ref aP, .ref aH, .ref aC, .ref aT, .ref aB, .ref aZ, .ref aW, .ref aR, .ref oR, .ref oW])), (aP, .inl (cI, rm, .inl (pF (updN P n j)))), (aH, .inl (cI, rm, .inl (nF (updN Hh n (Hh j + 1))))), (aC, .inl (cI, rm, .inl (nF (updN Ch j (Ch j + 1))))), (aT, .inl (cJ, rm, .inr (.inl (vp_updL Tm n t)))), (aB, .inl (cJ, rm, .inr (.inl (vp_updL Bt n b)))), (aZ, .inl (cZ, rm, .inl (nF Zb))), (aW, .inl (cJ, rm * 8, .inr (.inl (m_sum ((m_dv (m_set b fd) fr fq (Ld - 2)).2) n j Wk)))), (aR, .inl (cJ, 11, .inr (.inl ((m_med P Tm 11 0 (j + 1) Rk).1)))), (oR, .inr (0, [.ref aQ])), (aQ, .inl (cJ, 9, .inr (.inl (m_pr (Bt j) (Tm j - Tm (m_anc P (Hh j - (Hh j - 7)) j)) pr)))), (oW, .inr (1, [.ref dv, .ref rs, .ref qt, .long b])), (dv, .inl (cJ, 8, .inr (.inl (m_set b fd)))), (rs, .inl (cJ, 8, .inr (.inl ((m_dv (m_set b fd) fr fq (Ld - 2)).1)))), (qt, .inl (cJ, 8, .inr (.inl ((m_dv (m_set b fd) fr fq (Ld - 2)).2))))]) 0 0 := by
  refine rw_of (cc := cT_add) (maxL := 6) (ret := some .int) (by decide) rfl (Nat.le_of_ble_eq_true rfl) ?_
  intro p e s m args below meth c Q A ls hx hb hr hml hown hts hlocks hin hK hP hD hA hl hQ
  have hS : va_S A s.heap s.heap [] := va_S.rf
  have hl : lv_has ls 6 [(0, .ref o), (1, .int (nI j)), (2, .long t), (4, .long b)] := hl
  have hown : s.vm.findClass RT = some m.cls := hown
  obtain ⟨H, hHe⟩ : ∃ H : Heap, H = s.heap := ⟨_, rfl⟩
  rw [← hHe] at hP
  have hS : va_S A s.heap H [] := by rw [hHe]; exact va_S.rf
  suffices h9 : W p l e rm_c_add_okRn s m args below meth c H [] 0 0 Q (F0 m 0 ls []) by rw [hHe] at h9; exact h9
  clear hHe
  refine lv_aload_n hx hb dT_add_0 rfl (lv_at hl 0 rfl) ?_
  refine lv_iload_n hx hb dT_add_1 rfl (lv_at hl 1 rfl) ?_
  refine ro_ki (va_runV (As := [.int (nI j)]) (rest := []) ⟨hx, hb, hml, hown, hts⟩ (c_isBlock_ok l D cI cJ cZ o rm n bs aP aH aC aT aB aZ aW aR oR oW j (by omega) (by omega)) (cwV 1 hts gT_add_T_isBlock_76 rfl rfl rfl (by decide +kernel) ⟨Nat.le_of_ble_eq_true rfl, Nat.le_of_ble_eq_true rfl⟩) (ro_preV (hP.sub [0] rfl) hK (va_recv hK hP (ci := 2) (q0 := 0) rfl rfl)) rfl rfl hl.1 rfl (lv_room (Nat.le_of_ble_eq_true rfl)) dT_add_2 ⟨Nat.le_of_ble_eq_true rfl, Nat.le_of_ble_eq_true rfl⟩) ?_
  refine lv_if_ne (tgt := 10) hx hb dT_add_5 (by decide) (fun c_5 => ?_) (fun c_5 => ?_)
  · skip
    rw [← nI_0] at c_5
    have c_5 : ¬ 1 = 0 := n_ne c_5
    refine lv_aload_n hx hb dT_add_10 rfl (lv_at hl 0 rfl) ?_
    refine va_get (D := D) (ci := 2) (v := .ref aZ) (C := RT) (T := TT) (N := 13) hx hb hts iT_add_T hown hK hP 0 rfl rfl 8 (by decide) (hts (.fieldLink RT 30 "TreeDesk" "bad" "[Z") (by decide +kernel)) (fun _ h9 => h9) rfl dT_add_11 ?_
    refine lv_iload_n hx hb dT_add_14 rfl (lv_at hl 1 rfl) ?_
    refine ar_zld (j := j) hx hb hK hP 6 2 rfl rfl dT_add_15 (by omega) (by omega) ?_
    refine tp_i (y := nI (Zb j)) rfl ?_
    refine lv_if_eq (tgt := 22) hx hb dT_add_16 (by decide) (fun c_16 => ?_) (fun c_16 => ?_)
    · skip
      rw [← nI_0] at c_16
      have c_16 : (Zb j) = 0 := n_eq c_16 (by omega) (by omega)
      refine lv_lload hx hb dT_add_22 (lv_at hl 3 rfl) ?_
      refine lv_aload_n hx hb dT_add_24 rfl (lv_at hl 0 rfl) ?_
      refine lv_iload_n hx hb dT_add_25 rfl (lv_at hl 1 rfl) ?_
      refine rw_k (wc := [(o, .inr (2, [.int (nI rm), .int (nI n), .int (nI bs), .ref aP, .ref aH, .ref aC, .ref aT, .ref aB, .ref aZ, .ref aW, .ref aR, .ref oR, .ref oW])), (aP, .inl (cI, rm, .inl (pF P))), (aH, .inl (cI, rm, .inl (nF Hh))), (aT, .inl (cJ, rm, .inr (.inl Tm))), (aB, .inl (cJ, rm, .inr (.inl Bt))), (oR, .inr (0, [.ref aQ])), (aQ, .inl (cJ, 9, .inr (.inl pr)))]) (wr := [(aC, .inl (cI, rm, .inl (nF Ch))), (aZ, .inl (cZ, rm, .inl (nF Zb))), (aW, .inl (cJ, rm * 8, .inr (.inl Wk))), (aR, .inl (cJ, 11, .inr (.inl Rk))), (oW, .inr (1, [.ref dv, .ref rs, .ref qt, .long kn])), (dv, .inl (cJ, 8, .inr (.inl fd))), (rs, .inl (cJ, 8, .inr (.inl fr))), (qt, .inl (cJ, 8, .inr (.inl fq)))]) (va_runV (As := [.int (nI j)]) (rest := [.long b]) ⟨hx, hb, hml, hown, hts⟩ (c_must_ret l D cI cJ cZ o rm n bs aP aH aC aT aB aZ aW aR oR oW P Hh Tm Bt aQ pr j (by omega) (by omega) (by omega) (by omega) h8 hpar H.size) (cwV 1 hts gT_add_T_must_80 rfl rfl rfl (by decide +kernel) ⟨Nat.le_of_ble_eq_true rfl, Nat.le_of_ble_eq_true rfl⟩) (rw_preV (hP.sub [0, 1, 2, 4, 5, 9, 10] rfl) hK (hD.sub [0, 1, 2, 4, 5, 9, 10] (by decide) rfl) (va_recv hK hP (ci := 2) (q0 := 0) rfl rfl)) rfl rfl hl.1 rfl (lv_room (Nat.le_of_ble_eq_true rfl)) dT_add_26 ⟨Nat.le_of_ble_eq_true rfl, Nat.le_of_ble_eq_true rfl⟩) hP hD hS hA [0, 1, 2, 4, 5, 9, 10] [3, 6, 7, 8, 11, 12, 13, 14] rfl rfl (by decide) (by decide) (fun v9 w9 H locs hp9 hP hD hS => ?_)
      obtain ⟨rfl, rfl⟩ := hp9
      have hP : va_P D vwCl [(aC, .inl (cI, rm, .inl (nF Ch))), (aZ, .inl (cZ, rm, .inl (nF Zb))), (aW, .inl (cJ, rm * 8, .inr (.inl Wk))), (aR, .inl (cJ, 11, .inr (.inl Rk))), (oW, .inr (1, [.ref dv, .ref rs, .ref qt, .long kn])), (dv, .inl (cJ, 8, .inr (.inl fd))), (rs, .inl (cJ, 8, .inr (.inl fr))), (qt, .inl (cJ, 8, .inr (.inl fq))), (o, .inr (2, [.int (nI rm), .int (nI n), .int (nI bs), .ref aP, .ref aH, .ref aC, .ref aT, .ref aB, .ref aZ, .ref aW, .ref aR, .ref oR, .ref oW])), (aP, .inl (cI, rm, .inl (pF P))), (aH, .inl (cI, rm, .inl (nF Hh))), (aT, .inl (cJ, rm, .inr (.inl Tm))), (aB, .inl (cJ, rm, .inr (.inl Bt))), (oR, .inr (0, [.ref aQ])), (aQ, .inl (cJ, 9, .inr (.inl (m_pr (Bt j) (Tm j - Tm (m_anc P (Hh j - (Hh j - 7)) j)) pr))))] H := hP
      have hD : va_D A [(aC, .inl (cI, rm, .inl (nF Ch))), (aZ, .inl (cZ, rm, .inl (nF Zb))), (aW, .inl (cJ, rm * 8, .inr (.inl Wk))), (aR, .inl (cJ, 11, .inr (.inl Rk))), (oW, .inr (1, [.ref dv, .ref rs, .ref qt, .long kn])), (dv, .inl (cJ, 8, .inr (.inl fd))), (rs, .inl (cJ, 8, .inr (.inl fr))), (qt, .inl (cJ, 8, .inr (.inl fq))), (o, .inr (2, [.int (nI rm), .int (nI n), .int (nI bs), .ref aP, .ref aH, .ref aC, .ref aT, .ref aB, .ref aZ, .ref aW, .ref aR, .ref oR, .ref oW])), (aP, .inl (cI, rm, .inl (pF P))), (aH, .inl (cI, rm, .inl (nF Hh))), (aT, .inl (cJ, rm, .inr (.inl Tm))), (aB, .inl (cJ, rm, .inr (.inl Bt))), (oR, .inr (0, [.ref aQ])), (aQ, .inl (cJ, 9, .inr (.inl (m_pr (Bt j) (Tm j - Tm (m_anc P (Hh j - (Hh j - 7)) j)) pr))))] := hD
      refine W.eq (g2 := F0 m 29 ls [.long (m_next (m_pr (Bt j) (Tm j - Tm (m_anc P (Hh j - (Hh j - 7)) j)) pr)), .long b]) rfl ?_
      refine lc_eq (tgt := 36) hx hb dT_add_29 dT_add_30 (by decide) (fun c_30 => ?_) (fun c_30 => ?_)
      · skip
        refine lv_lload_n hx hb dT_add_36 rfl (lv_at hl 2 rfl) ?_
        refine lv_aload_n hx hb dT_add_37 rfl (lv_at hl 0 rfl) ?_
        refine lv_iload_n hx hb dT_add_38 rfl (lv_at hl 1 rfl) ?_
        refine rw_k (wc := [(o, .inr (2, [.int (nI rm), .int (nI n), .int (nI bs), .ref aP, .ref aH, .ref aC, .ref aT, .ref aB, .ref aZ, .ref aW, .ref aR, .ref oR, .ref oW])), (aP, .inl (cI, rm, .inl (pF P))), (aT, .inl (cJ, rm, .inr (.inl Tm))), (aR, .inl (cJ, 11, .inr (.inl Rk)))]) (wr := [(aC, .inl (cI, rm, .inl (nF Ch))), (aZ, .inl (cZ, rm, .inl (nF Zb))), (aW, .inl (cJ, rm * 8, .inr (.inl Wk))), (oW, .inr (1, [.ref dv, .ref rs, .ref qt, .long kn])), (dv, .inl (cJ, 8, .inr (.inl fd))), (rs, .inl (cJ, 8, .inr (.inl fr))), (qt, .inl (cJ, 8, .inr (.inl fq))), (aH, .inl (cI, rm, .inl (nF Hh))), (aB, .inl (cJ, rm, .inr (.inl Bt))), (oR, .inr (0, [.ref aQ])), (aQ, .inl (cJ, 9, .inr (.inl (m_pr (Bt j) (Tm j - Tm (m_anc P (Hh j - (Hh j - 7)) j)) pr))))]) (va_runV (As := [.int (nI j)]) (rest := [.long t]) ⟨hx, hb, hml, hown, hts⟩ (c_median_ok l D cI cJ cZ o rm n bs aP aH aC aT aB aZ aW aR oR oW P Tm Rk j (by omega) (by omega) (by omega) hpar H.size) (cwV 1 hts gT_add_T_median_84 rfl rfl rfl (by decide +kernel) ⟨Nat.le_of_ble_eq_true rfl, Nat.le_of_ble_eq_true rfl⟩) (rw_preV (hP.sub [8, 9, 11, 3] rfl) hK (hD.sub [8, 9, 11, 3] (by decide) rfl) (va_recv hK hP (ci := 2) (q0 := 8) rfl rfl)) rfl rfl hl.1 rfl (lv_room (Nat.le_of_ble_eq_true rfl)) dT_add_39 ⟨Nat.le_of_ble_eq_true rfl, Nat.le_of_ble_eq_true rfl⟩) hP hD hS hA [8, 9, 11, 3] [0, 1, 2, 4, 5, 6, 7, 10, 12, 13, 14] rfl rfl (by decide) (by decide) (fun v9 w9 H locs hp9 hP hD hS => ?_)
        obtain ⟨rfl, rfl⟩ := hp9
        have hP : va_P D vwCl [(aC, .inl (cI, rm, .inl (nF Ch))), (aZ, .inl (cZ, rm, .inl (nF Zb))), (aW, .inl (cJ, rm * 8, .inr (.inl Wk))), (oW, .inr (1, [.ref dv, .ref rs, .ref qt, .long kn])), (dv, .inl (cJ, 8, .inr (.inl fd))), (rs, .inl (cJ, 8, .inr (.inl fr))), (qt, .inl (cJ, 8, .inr (.inl fq))), (aH, .inl (cI, rm, .inl (nF Hh))), (aB, .inl (cJ, rm, .inr (.inl Bt))), (oR, .inr (0, [.ref aQ])), (aQ, .inl (cJ, 9, .inr (.inl (m_pr (Bt j) (Tm j - Tm (m_anc P (Hh j - (Hh j - 7)) j)) pr)))), (o, .inr (2, [.int (nI rm), .int (nI n), .int (nI bs), .ref aP, .ref aH, .ref aC, .ref aT, .ref aB, .ref aZ, .ref aW, .ref aR, .ref oR, .ref oW])), (aP, .inl (cI, rm, .inl (pF P))), (aT, .inl (cJ, rm, .inr (.inl Tm))), (aR, .inl (cJ, 11, .inr (.inl ((m_med P Tm 11 0 (j + 1) Rk).1))))] H := hP
        have hD : va_D A [(aC, .inl (cI, rm, .inl (nF Ch))), (aZ, .inl (cZ, rm, .inl (nF Zb))), (aW, .inl (cJ, rm * 8, .inr (.inl Wk))), (oW, .inr (1, [.ref dv, .ref rs, .ref qt, .long kn])), (dv, .inl (cJ, 8, .inr (.inl fd))), (rs, .inl (cJ, 8, .inr (.inl fr))), (qt, .inl (cJ, 8, .inr (.inl fq))), (aH, .inl (cI, rm, .inl (nF Hh))), (aB, .inl (cJ, rm, .inr (.inl Bt))), (oR, .inr (0, [.ref aQ])), (aQ, .inl (cJ, 9, .inr (.inl (m_pr (Bt j) (Tm j - Tm (m_anc P (Hh j - (Hh j - 7)) j)) pr)))), (o, .inr (2, [.int (nI rm), .int (nI n), .int (nI bs), .ref aP, .ref aH, .ref aC, .ref aT, .ref aB, .ref aZ, .ref aW, .ref aR, .ref oR, .ref oW])), (aP, .inl (cI, rm, .inl (pF P))), (aT, .inl (cJ, rm, .inr (.inl Tm))), (aR, .inl (cJ, 11, .inr (.inl ((m_med P Tm 11 0 (j + 1) Rk).1))))] := hD
        refine W.eq (g2 := F0 m 42 ls [.long ((m_med P Tm 11 0 (j + 1) Rk).1 ((m_med P Tm 11 0 (j + 1) Rk).2 / 2)), .long t]) rfl ?_
        refine lc_le (tgt := 54) hx hb dT_add_42 dT_add_43 (by decide) (fun c_43 => ?_) (fun c_43 => ?_)
        · skip
          exact absurd ht9 (Int64.not_lt.mpr c_43)
        · skip
          refine lv_lload_n hx hb dT_add_46 rfl (lv_at hl 2 rfl) ?_
          refine lv_ldc2 (v := 4294967295) hx hb hown (hts (.constantLong RT 56 4294967295) (by decide +kernel)) dT_add_47 ?_
          refine lc_le (tgt := 57) hx hb dT_add_50 dT_add_51 (by decide) (fun c_51 => ?_) (fun c_51 => ?_)
          · skip
            refine lv_aload_n hx hb dT_add_57 rfl (lv_at hl 0 rfl) ?_
            refine va_get (D := D) (ci := 2) (v := .int (nI n)) (C := RT) (T := TT) (N := 13) hx hb hts iT_add_T hown hK hP 11 rfl rfl 1 (by decide) (hts (.fieldLink RT 70 "TreeDesk" "count" "I") (by decide +kernel)) (fun _ h9 => h9) rfl dT_add_58 ?_
            refine lv_aload_n hx hb dT_add_61 rfl (lv_at hl 0 rfl) ?_
            refine va_get (D := D) (ci := 2) (v := .int (nI rm)) (C := RT) (T := TT) (N := 13) hx hb hts iT_add_T hown hK hP 11 rfl rfl 0 (by decide) (hts (.fieldLink RT 9 "TreeDesk" "room" "I") (by decide +kernel)) (fun _ h9 => h9) rfl dT_add_62 ?_
            refine lv_icmp_lt (tgt := 71) hx hb dT_add_65 (by decide) (fun c_65 => ?_) (fun c_65 => ?_)
            · skip
              have c_65 : n < rm := n_lt c_65 (by omega) (by omega)
              refine lv_aload_n hx hb dT_add_71 rfl (lv_at hl 0 rfl) ?_
              refine lv_iload_n hx hb dT_add_72 rfl (lv_at hl 1 rfl) ?_
              refine lv_lload_n hx hb dT_add_73 rfl (lv_at hl 2 rfl) ?_
              refine lv_lload hx hb dT_add_74 (lv_at hl 3 rfl) ?_
              refine rw_k (wc := [(o, .inr (2, [.int (nI rm), .int (nI n), .int (nI bs), .ref aP, .ref aH, .ref aC, .ref aT, .ref aB, .ref aZ, .ref aW, .ref aR, .ref oR, .ref oW])), (aP, .inl (cI, rm, .inl (pF P))), (aH, .inl (cI, rm, .inl (nF Hh))), (aC, .inl (cI, rm, .inl (nF Ch))), (aT, .inl (cJ, rm, .inr (.inl Tm))), (aB, .inl (cJ, rm, .inr (.inl Bt))), (aW, .inl (cJ, rm * 8, .inr (.inl Wk))), (oW, .inr (1, [.ref dv, .ref rs, .ref qt, .long kn])), (dv, .inl (cJ, 8, .inr (.inl fd))), (rs, .inl (cJ, 8, .inr (.inl fr))), (qt, .inl (cJ, 8, .inr (.inl fq)))]) (wr := [(aZ, .inl (cZ, rm, .inl (nF Zb))), (oR, .inr (0, [.ref aQ])), (aQ, .inl (cJ, 9, .inr (.inl (m_pr (Bt j) (Tm j - Tm (m_anc P (Hh j - (Hh j - 7)) j)) pr)))), (aR, .inl (cJ, 11, .inr (.inl ((m_med P Tm 11 0 (j + 1) Rk).1))))]) (va_runV (As := [.int (nI j), .long t, .long b]) (rest := []) ⟨hx, hb, hml, hown, hts⟩ (c_append_new l D cI cJ cZ o rm n bs aP aH aC aT aB aZ aW aR oR oW P Hh Ch Tm Bt Wk dv rs qt kn fd fr fq j t b Ld (by omega) (by omega) (by omega) (by omega) (by omega) (by omega) (by omega) hk9 hLd hL2 hL6 H.size) (cwV 3 hts gT_add_T_append_87 rfl rfl rfl (by decide +kernel) ⟨Nat.le_of_ble_eq_true rfl, Nat.le_of_ble_eq_true rfl⟩) (rw_preV (hP.sub [11, 12, 7, 0, 13, 8, 2, 3, 4, 5, 6] rfl) hK (hD.sub [11, 12, 7, 0, 13, 8, 2, 3, 4, 5, 6] (by decide) rfl) (va_recv hK hP (ci := 2) (q0 := 11) rfl rfl)) rfl rfl hl.1 rfl (lv_room (Nat.le_of_ble_eq_true rfl)) dT_add_76 ⟨Nat.le_of_ble_eq_true rfl, Nat.le_of_ble_eq_true rfl⟩) hP hD hS hA [11, 12, 7, 0, 13, 8, 2, 3, 4, 5, 6] [1, 9, 10, 14] rfl rfl (by decide) (by decide) (fun v9 w9 H locs hp9 hP hD hS => ?_)
              obtain ⟨rfl, rfl⟩ := hp9
              have hP : va_P D vwCl [(aZ, .inl (cZ, rm, .inl (nF Zb))), (oR, .inr (0, [.ref aQ])), (aQ, .inl (cJ, 9, .inr (.inl (m_pr (Bt j) (Tm j - Tm (m_anc P (Hh j - (Hh j - 7)) j)) pr)))), (aR, .inl (cJ, 11, .inr (.inl ((m_med P Tm 11 0 (j + 1) Rk).1)))), (o, .inr (2, [.int (nI rm), .int (nI (n + 1)), .int (nI (if m_cmp (m_sum ((m_dv (m_set b fd) fr fq (Ld - 2)).2) n j Wk) n bs 8 0 ≤ 0 then bs else n)), .ref aP, .ref aH, .ref aC, .ref aT, .ref aB, .ref aZ, .ref aW, .ref aR, .ref oR, .ref oW])), (aP, .inl (cI, rm, .inl (pF (updN P n j)))), (aH, .inl (cI, rm, .inl (nF (updN Hh n (Hh j + 1))))), (aC, .inl (cI, rm, .inl (nF (updN Ch j (Ch j + 1))))), (aT, .inl (cJ, rm, .inr (.inl (vp_updL Tm n t)))), (aB, .inl (cJ, rm, .inr (.inl (vp_updL Bt n b)))), (aW, .inl (cJ, rm * 8, .inr (.inl (m_sum ((m_dv (m_set b fd) fr fq (Ld - 2)).2) n j Wk)))), (oW, .inr (1, [.ref dv, .ref rs, .ref qt, .long b])), (dv, .inl (cJ, 8, .inr (.inl (m_set b fd)))), (rs, .inl (cJ, 8, .inr (.inl ((m_dv (m_set b fd) fr fq (Ld - 2)).1)))), (qt, .inl (cJ, 8, .inr (.inl ((m_dv (m_set b fd) fr fq (Ld - 2)).2))))] H := hP
              have hD : va_D A [(aZ, .inl (cZ, rm, .inl (nF Zb))), (oR, .inr (0, [.ref aQ])), (aQ, .inl (cJ, 9, .inr (.inl (m_pr (Bt j) (Tm j - Tm (m_anc P (Hh j - (Hh j - 7)) j)) pr)))), (aR, .inl (cJ, 11, .inr (.inl ((m_med P Tm 11 0 (j + 1) Rk).1)))), (o, .inr (2, [.int (nI rm), .int (nI (n + 1)), .int (nI (if m_cmp (m_sum ((m_dv (m_set b fd) fr fq (Ld - 2)).2) n j Wk) n bs 8 0 ≤ 0 then bs else n)), .ref aP, .ref aH, .ref aC, .ref aT, .ref aB, .ref aZ, .ref aW, .ref aR, .ref oR, .ref oW])), (aP, .inl (cI, rm, .inl (pF (updN P n j)))), (aH, .inl (cI, rm, .inl (nF (updN Hh n (Hh j + 1))))), (aC, .inl (cI, rm, .inl (nF (updN Ch j (Ch j + 1))))), (aT, .inl (cJ, rm, .inr (.inl (vp_updL Tm n t)))), (aB, .inl (cJ, rm, .inr (.inl (vp_updL Bt n b)))), (aW, .inl (cJ, rm * 8, .inr (.inl (m_sum ((m_dv (m_set b fd) fr fq (Ld - 2)).2) n j Wk)))), (oW, .inr (1, [.ref dv, .ref rs, .ref qt, .long b])), (dv, .inl (cJ, 8, .inr (.inl (m_set b fd)))), (rs, .inl (cJ, 8, .inr (.inl ((m_dv (m_set b fd) fr fq (Ld - 2)).1)))), (qt, .inl (cJ, 8, .inr (.inl ((m_dv (m_set b fd) fr fq (Ld - 2)).2))))] := hD
              refine W.eq (g2 := F0 m 79 ls [.int (nI n)]) rfl ?_
              exact rw_iret (w := [(o, .inr (2, [.int (nI rm), .int (nI (n + 1)), .int (nI (if m_cmp (m_sum ((m_dv (m_set b fd) fr fq (Ld - 2)).2) n j Wk) n bs 8 0 ≤ 0 then bs else n)), .ref aP, .ref aH, .ref aC, .ref aT, .ref aB, .ref aZ, .ref aW, .ref aR, .ref oR, .ref oW])), (aP, .inl (cI, rm, .inl (pF (updN P n j)))), (aH, .inl (cI, rm, .inl (nF (updN Hh n (Hh j + 1))))), (aC, .inl (cI, rm, .inl (nF (updN Ch j (Ch j + 1))))), (aT, .inl (cJ, rm, .inr (.inl (vp_updL Tm n t)))), (aB, .inl (cJ, rm, .inr (.inl (vp_updL Bt n b)))), (aZ, .inl (cZ, rm, .inl (nF Zb))), (aW, .inl (cJ, rm * 8, .inr (.inl (m_sum ((m_dv (m_set b fd) fr fq (Ld - 2)).2) n j Wk)))), (aR, .inl (cJ, 11, .inr (.inl ((m_med P Tm 11 0 (j + 1) Rk).1)))), (oR, .inr (0, [.ref aQ])), (aQ, .inl (cJ, 9, .inr (.inl (m_pr (Bt j) (Tm j - Tm (m_anc P (Hh j - (Hh j - 7)) j)) pr)))), (oW, .inr (1, [.ref dv, .ref rs, .ref qt, .long b])), (dv, .inl (cJ, 8, .inr (.inl (m_set b fd)))), (rs, .inl (cJ, 8, .inr (.inl ((m_dv (m_set b fd) fr fq (Ld - 2)).1)))), (qt, .inl (cJ, 8, .inr (.inl ((m_dv (m_set b fd) fr fq (Ld - 2)).2))))]) hQ hx hb hr hlocks dT_add_79 (hP.sub [4, 5, 6, 7, 8, 9, 0, 10, 3, 1, 2, 11, 12, 13, 14] rfl) (hD.sub [4, 5, 6, 7, 8, 9, 0, 10, 3, 1, 2, 11, 12, 13, 14] (by decide) rfl) hS ⟨rfl, rfl⟩
            · skip
              have c_65 : rm ≤ n := n_nlt c_65 (by omega) (by omega)
              omega
          · skip
            exact absurd ht8 c_51
      · skip
        exact absurd hb9 c_30
    · skip
      rw [← nI_0] at c_16
      have c_16 : ¬ (Zb j) = 0 := n_ne c_16
      omega
  · skip
    rw [← nI_0] at c_5
    have c_5 : 1 = 0 := n_eq c_5 (by omega) (by omega)
    omega

abbrev rm_c_add_okRo : Room := { frames := 7, cells := 0, slots := 0, locals := 156 }
set_option maxRecDepth 100000 in
set_option maxHeartbeats 4000000 in
theorem c_add_okRo (l : Launch) (D : va_G) (cI cJ cZ : ClassId) (o : Nat) (rm : Nat) (n : Nat) (bs : Nat) (aP : Nat) (aH : Nat) (aC : Nat) (aT : Nat) (aB : Nat) (aZ : Nat) (aW : Nat) (aR : Nat) (oR : Nat) (oW : Nat) (P : Nat → Nat) (Hh : Nat → Nat) (Ch : Nat → Nat) (Tm : Nat → Int64) (Bt : Nat → Int64) (Zb : Nat → Nat) (Wk : Nat → Int64) (Rk : Nat → Int64) (aQ : Nat) (pr : Nat → Int64) (dv : Nat) (rs : Nat) (qt : Nat) (kn : Int64) (fd : Nat → Int64) (fr : Nat → Int64) (fq : Nat → Int64) (j : Nat) (t : Int64) (hn0 : 0 < n) (hn3 : n < rm) (hr3 : rm ≤ 300) (hj : j < n) (hbs : bs < n) (hHj : Hh j < 300) (hCj : Ch j < 300) (hz0 : Zb j = 0) (h8 : (Hh j + 1) % 8 = 0) (hb9 : kn = m_next (m_pr (Bt j) (Tm j - Tm (m_anc P (Hh j - (Hh j - 7)) j)) pr)) (ht9 : (m_med P Tm 11 0 (j + 1) Rk).1 ((m_med P Tm 11 0 (j + 1) Rk).2 / 2) < t) (ht8 : t ≤ 4294967295) (hpar : ∀ x : Nat, 0 < x → x < n → P x < x) : rw_C l yT_add wT_add rm_c_add_okRo D vwCl (gT cI cJ cZ) [.ref o, .int (nI j), .long t, .long kn] [(o, .inr (2, [.int (nI rm), .int (nI n), .int (nI bs), .ref aP, .ref aH, .ref aC, .ref aT, .ref aB, .ref aZ, .ref aW, .ref aR, .ref oR, .ref oW])), (aP, .inl (cI, rm, .inl (pF P))), (aH, .inl (cI, rm, .inl (nF Hh))), (aC, .inl (cI, rm, .inl (nF Ch))), (aT, .inl (cJ, rm, .inr (.inl Tm))), (aB, .inl (cJ, rm, .inr (.inl Bt))), (aZ, .inl (cZ, rm, .inl (nF Zb))), (aW, .inl (cJ, rm * 8, .inr (.inl Wk))), (aR, .inl (cJ, 11, .inr (.inl Rk))), (oR, .inr (0, [.ref aQ])), (aQ, .inl (cJ, 9, .inr (.inl pr))), (oW, .inr (1, [.ref dv, .ref rs, .ref qt, .long kn])), (dv, .inl (cJ, 8, .inr (.inl fd))), (rs, .inl (cJ, 8, .inr (.inl fr))), (qt, .inl (cJ, 8, .inr (.inl fq)))] (fun v9 w9 => v9 = some (.int (nI n)) ∧ w9 = [(o, .inr (2, [.int (nI rm), .int (nI (n + 1)), .int (nI (if m_cmp (m_sum fq n j Wk) n bs 8 0 ≤ 0 then bs else n)), .ref aP, .ref aH, .ref aC, .ref aT, .ref aB, .ref aZ, .ref aW, .ref aR, .ref oR, .ref oW])), (aP, .inl (cI, rm, .inl (pF (updN P n j)))), (aH, .inl (cI, rm, .inl (nF (updN Hh n (Hh j + 1))))), (aC, .inl (cI, rm, .inl (nF (updN Ch j (Ch j + 1))))), (aT, .inl (cJ, rm, .inr (.inl (vp_updL Tm n t)))), (aB, .inl (cJ, rm, .inr (.inl (vp_updL Bt n kn)))), (aZ, .inl (cZ, rm, .inl (nF Zb))), (aW, .inl (cJ, rm * 8, .inr (.inl (m_sum fq n j Wk)))), (aR, .inl (cJ, 11, .inr (.inl ((m_med P Tm 11 0 (j + 1) Rk).1)))), (oR, .inr (0, [.ref aQ])), (aQ, .inl (cJ, 9, .inr (.inl (m_pr (Bt j) (Tm j - Tm (m_anc P (Hh j - (Hh j - 7)) j)) pr)))), (oW, .inr (1, [.ref dv, .ref rs, .ref qt, .long kn])), (dv, .inl (cJ, 8, .inr (.inl fd))), (rs, .inl (cJ, 8, .inr (.inl fr))), (qt, .inl (cJ, 8, .inr (.inl fq)))]) 0 0 := by
  refine rw_of (cc := cT_add) (maxL := 6) (ret := some .int) (by decide) rfl (Nat.le_of_ble_eq_true rfl) ?_
  intro p e s m args below meth c Q A ls hx hb hr hml hown hts hlocks hin hK hP hD hA hl hQ
  have hS : va_S A s.heap s.heap [] := va_S.rf
  have hl : lv_has ls 6 [(0, .ref o), (1, .int (nI j)), (2, .long t), (4, .long kn)] := hl
  have hown : s.vm.findClass RT = some m.cls := hown
  obtain ⟨H, hHe⟩ : ∃ H : Heap, H = s.heap := ⟨_, rfl⟩
  rw [← hHe] at hP
  have hS : va_S A s.heap H [] := by rw [hHe]; exact va_S.rf
  suffices h9 : W p l e rm_c_add_okRo s m args below meth c H [] 0 0 Q (F0 m 0 ls []) by rw [hHe] at h9; exact h9
  clear hHe
  refine lv_aload_n hx hb dT_add_0 rfl (lv_at hl 0 rfl) ?_
  refine lv_iload_n hx hb dT_add_1 rfl (lv_at hl 1 rfl) ?_
  refine ro_ki (va_runV (As := [.int (nI j)]) (rest := []) ⟨hx, hb, hml, hown, hts⟩ (c_isBlock_ok l D cI cJ cZ o rm n bs aP aH aC aT aB aZ aW aR oR oW j (by omega) (by omega)) (cwV 1 hts gT_add_T_isBlock_76 rfl rfl rfl (by decide +kernel) ⟨Nat.le_of_ble_eq_true rfl, Nat.le_of_ble_eq_true rfl⟩) (ro_preV (hP.sub [0] rfl) hK (va_recv hK hP (ci := 2) (q0 := 0) rfl rfl)) rfl rfl hl.1 rfl (lv_room (Nat.le_of_ble_eq_true rfl)) dT_add_2 ⟨Nat.le_of_ble_eq_true rfl, Nat.le_of_ble_eq_true rfl⟩) ?_
  refine lv_if_ne (tgt := 10) hx hb dT_add_5 (by decide) (fun c_5 => ?_) (fun c_5 => ?_)
  · skip
    rw [← nI_0] at c_5
    have c_5 : ¬ 1 = 0 := n_ne c_5
    refine lv_aload_n hx hb dT_add_10 rfl (lv_at hl 0 rfl) ?_
    refine va_get (D := D) (ci := 2) (v := .ref aZ) (C := RT) (T := TT) (N := 13) hx hb hts iT_add_T hown hK hP 0 rfl rfl 8 (by decide) (hts (.fieldLink RT 30 "TreeDesk" "bad" "[Z") (by decide +kernel)) (fun _ h9 => h9) rfl dT_add_11 ?_
    refine lv_iload_n hx hb dT_add_14 rfl (lv_at hl 1 rfl) ?_
    refine ar_zld (j := j) hx hb hK hP 6 2 rfl rfl dT_add_15 (by omega) (by omega) ?_
    refine tp_i (y := nI (Zb j)) rfl ?_
    refine lv_if_eq (tgt := 22) hx hb dT_add_16 (by decide) (fun c_16 => ?_) (fun c_16 => ?_)
    · skip
      rw [← nI_0] at c_16
      have c_16 : (Zb j) = 0 := n_eq c_16 (by omega) (by omega)
      refine lv_lload hx hb dT_add_22 (lv_at hl 3 rfl) ?_
      refine lv_aload_n hx hb dT_add_24 rfl (lv_at hl 0 rfl) ?_
      refine lv_iload_n hx hb dT_add_25 rfl (lv_at hl 1 rfl) ?_
      refine rw_k (wc := [(o, .inr (2, [.int (nI rm), .int (nI n), .int (nI bs), .ref aP, .ref aH, .ref aC, .ref aT, .ref aB, .ref aZ, .ref aW, .ref aR, .ref oR, .ref oW])), (aP, .inl (cI, rm, .inl (pF P))), (aH, .inl (cI, rm, .inl (nF Hh))), (aT, .inl (cJ, rm, .inr (.inl Tm))), (aB, .inl (cJ, rm, .inr (.inl Bt))), (oR, .inr (0, [.ref aQ])), (aQ, .inl (cJ, 9, .inr (.inl pr)))]) (wr := [(aC, .inl (cI, rm, .inl (nF Ch))), (aZ, .inl (cZ, rm, .inl (nF Zb))), (aW, .inl (cJ, rm * 8, .inr (.inl Wk))), (aR, .inl (cJ, 11, .inr (.inl Rk))), (oW, .inr (1, [.ref dv, .ref rs, .ref qt, .long kn])), (dv, .inl (cJ, 8, .inr (.inl fd))), (rs, .inl (cJ, 8, .inr (.inl fr))), (qt, .inl (cJ, 8, .inr (.inl fq)))]) (va_runV (As := [.int (nI j)]) (rest := [.long kn]) ⟨hx, hb, hml, hown, hts⟩ (c_must_ret l D cI cJ cZ o rm n bs aP aH aC aT aB aZ aW aR oR oW P Hh Tm Bt aQ pr j (by omega) (by omega) (by omega) (by omega) h8 hpar H.size) (cwV 1 hts gT_add_T_must_80 rfl rfl rfl (by decide +kernel) ⟨Nat.le_of_ble_eq_true rfl, Nat.le_of_ble_eq_true rfl⟩) (rw_preV (hP.sub [0, 1, 2, 4, 5, 9, 10] rfl) hK (hD.sub [0, 1, 2, 4, 5, 9, 10] (by decide) rfl) (va_recv hK hP (ci := 2) (q0 := 0) rfl rfl)) rfl rfl hl.1 rfl (lv_room (Nat.le_of_ble_eq_true rfl)) dT_add_26 ⟨Nat.le_of_ble_eq_true rfl, Nat.le_of_ble_eq_true rfl⟩) hP hD hS hA [0, 1, 2, 4, 5, 9, 10] [3, 6, 7, 8, 11, 12, 13, 14] rfl rfl (by decide) (by decide) (fun v9 w9 H locs hp9 hP hD hS => ?_)
      obtain ⟨rfl, rfl⟩ := hp9
      have hP : va_P D vwCl [(aC, .inl (cI, rm, .inl (nF Ch))), (aZ, .inl (cZ, rm, .inl (nF Zb))), (aW, .inl (cJ, rm * 8, .inr (.inl Wk))), (aR, .inl (cJ, 11, .inr (.inl Rk))), (oW, .inr (1, [.ref dv, .ref rs, .ref qt, .long kn])), (dv, .inl (cJ, 8, .inr (.inl fd))), (rs, .inl (cJ, 8, .inr (.inl fr))), (qt, .inl (cJ, 8, .inr (.inl fq))), (o, .inr (2, [.int (nI rm), .int (nI n), .int (nI bs), .ref aP, .ref aH, .ref aC, .ref aT, .ref aB, .ref aZ, .ref aW, .ref aR, .ref oR, .ref oW])), (aP, .inl (cI, rm, .inl (pF P))), (aH, .inl (cI, rm, .inl (nF Hh))), (aT, .inl (cJ, rm, .inr (.inl Tm))), (aB, .inl (cJ, rm, .inr (.inl Bt))), (oR, .inr (0, [.ref aQ])), (aQ, .inl (cJ, 9, .inr (.inl (m_pr (Bt j) (Tm j - Tm (m_anc P (Hh j - (Hh j - 7)) j)) pr))))] H := hP
      have hD : va_D A [(aC, .inl (cI, rm, .inl (nF Ch))), (aZ, .inl (cZ, rm, .inl (nF Zb))), (aW, .inl (cJ, rm * 8, .inr (.inl Wk))), (aR, .inl (cJ, 11, .inr (.inl Rk))), (oW, .inr (1, [.ref dv, .ref rs, .ref qt, .long kn])), (dv, .inl (cJ, 8, .inr (.inl fd))), (rs, .inl (cJ, 8, .inr (.inl fr))), (qt, .inl (cJ, 8, .inr (.inl fq))), (o, .inr (2, [.int (nI rm), .int (nI n), .int (nI bs), .ref aP, .ref aH, .ref aC, .ref aT, .ref aB, .ref aZ, .ref aW, .ref aR, .ref oR, .ref oW])), (aP, .inl (cI, rm, .inl (pF P))), (aH, .inl (cI, rm, .inl (nF Hh))), (aT, .inl (cJ, rm, .inr (.inl Tm))), (aB, .inl (cJ, rm, .inr (.inl Bt))), (oR, .inr (0, [.ref aQ])), (aQ, .inl (cJ, 9, .inr (.inl (m_pr (Bt j) (Tm j - Tm (m_anc P (Hh j - (Hh j - 7)) j)) pr))))] := hD
      refine W.eq (g2 := F0 m 29 ls [.long (m_next (m_pr (Bt j) (Tm j - Tm (m_anc P (Hh j - (Hh j - 7)) j)) pr)), .long kn]) rfl ?_
      refine lc_eq (tgt := 36) hx hb dT_add_29 dT_add_30 (by decide) (fun c_30 => ?_) (fun c_30 => ?_)
      · skip
        refine lv_lload_n hx hb dT_add_36 rfl (lv_at hl 2 rfl) ?_
        refine lv_aload_n hx hb dT_add_37 rfl (lv_at hl 0 rfl) ?_
        refine lv_iload_n hx hb dT_add_38 rfl (lv_at hl 1 rfl) ?_
        refine rw_k (wc := [(o, .inr (2, [.int (nI rm), .int (nI n), .int (nI bs), .ref aP, .ref aH, .ref aC, .ref aT, .ref aB, .ref aZ, .ref aW, .ref aR, .ref oR, .ref oW])), (aP, .inl (cI, rm, .inl (pF P))), (aT, .inl (cJ, rm, .inr (.inl Tm))), (aR, .inl (cJ, 11, .inr (.inl Rk)))]) (wr := [(aC, .inl (cI, rm, .inl (nF Ch))), (aZ, .inl (cZ, rm, .inl (nF Zb))), (aW, .inl (cJ, rm * 8, .inr (.inl Wk))), (oW, .inr (1, [.ref dv, .ref rs, .ref qt, .long kn])), (dv, .inl (cJ, 8, .inr (.inl fd))), (rs, .inl (cJ, 8, .inr (.inl fr))), (qt, .inl (cJ, 8, .inr (.inl fq))), (aH, .inl (cI, rm, .inl (nF Hh))), (aB, .inl (cJ, rm, .inr (.inl Bt))), (oR, .inr (0, [.ref aQ])), (aQ, .inl (cJ, 9, .inr (.inl (m_pr (Bt j) (Tm j - Tm (m_anc P (Hh j - (Hh j - 7)) j)) pr))))]) (va_runV (As := [.int (nI j)]) (rest := [.long t]) ⟨hx, hb, hml, hown, hts⟩ (c_median_ok l D cI cJ cZ o rm n bs aP aH aC aT aB aZ aW aR oR oW P Tm Rk j (by omega) (by omega) (by omega) hpar H.size) (cwV 1 hts gT_add_T_median_84 rfl rfl rfl (by decide +kernel) ⟨Nat.le_of_ble_eq_true rfl, Nat.le_of_ble_eq_true rfl⟩) (rw_preV (hP.sub [8, 9, 11, 3] rfl) hK (hD.sub [8, 9, 11, 3] (by decide) rfl) (va_recv hK hP (ci := 2) (q0 := 8) rfl rfl)) rfl rfl hl.1 rfl (lv_room (Nat.le_of_ble_eq_true rfl)) dT_add_39 ⟨Nat.le_of_ble_eq_true rfl, Nat.le_of_ble_eq_true rfl⟩) hP hD hS hA [8, 9, 11, 3] [0, 1, 2, 4, 5, 6, 7, 10, 12, 13, 14] rfl rfl (by decide) (by decide) (fun v9 w9 H locs hp9 hP hD hS => ?_)
        obtain ⟨rfl, rfl⟩ := hp9
        have hP : va_P D vwCl [(aC, .inl (cI, rm, .inl (nF Ch))), (aZ, .inl (cZ, rm, .inl (nF Zb))), (aW, .inl (cJ, rm * 8, .inr (.inl Wk))), (oW, .inr (1, [.ref dv, .ref rs, .ref qt, .long kn])), (dv, .inl (cJ, 8, .inr (.inl fd))), (rs, .inl (cJ, 8, .inr (.inl fr))), (qt, .inl (cJ, 8, .inr (.inl fq))), (aH, .inl (cI, rm, .inl (nF Hh))), (aB, .inl (cJ, rm, .inr (.inl Bt))), (oR, .inr (0, [.ref aQ])), (aQ, .inl (cJ, 9, .inr (.inl (m_pr (Bt j) (Tm j - Tm (m_anc P (Hh j - (Hh j - 7)) j)) pr)))), (o, .inr (2, [.int (nI rm), .int (nI n), .int (nI bs), .ref aP, .ref aH, .ref aC, .ref aT, .ref aB, .ref aZ, .ref aW, .ref aR, .ref oR, .ref oW])), (aP, .inl (cI, rm, .inl (pF P))), (aT, .inl (cJ, rm, .inr (.inl Tm))), (aR, .inl (cJ, 11, .inr (.inl ((m_med P Tm 11 0 (j + 1) Rk).1))))] H := hP
        have hD : va_D A [(aC, .inl (cI, rm, .inl (nF Ch))), (aZ, .inl (cZ, rm, .inl (nF Zb))), (aW, .inl (cJ, rm * 8, .inr (.inl Wk))), (oW, .inr (1, [.ref dv, .ref rs, .ref qt, .long kn])), (dv, .inl (cJ, 8, .inr (.inl fd))), (rs, .inl (cJ, 8, .inr (.inl fr))), (qt, .inl (cJ, 8, .inr (.inl fq))), (aH, .inl (cI, rm, .inl (nF Hh))), (aB, .inl (cJ, rm, .inr (.inl Bt))), (oR, .inr (0, [.ref aQ])), (aQ, .inl (cJ, 9, .inr (.inl (m_pr (Bt j) (Tm j - Tm (m_anc P (Hh j - (Hh j - 7)) j)) pr)))), (o, .inr (2, [.int (nI rm), .int (nI n), .int (nI bs), .ref aP, .ref aH, .ref aC, .ref aT, .ref aB, .ref aZ, .ref aW, .ref aR, .ref oR, .ref oW])), (aP, .inl (cI, rm, .inl (pF P))), (aT, .inl (cJ, rm, .inr (.inl Tm))), (aR, .inl (cJ, 11, .inr (.inl ((m_med P Tm 11 0 (j + 1) Rk).1))))] := hD
        refine W.eq (g2 := F0 m 42 ls [.long ((m_med P Tm 11 0 (j + 1) Rk).1 ((m_med P Tm 11 0 (j + 1) Rk).2 / 2)), .long t]) rfl ?_
        refine lc_le (tgt := 54) hx hb dT_add_42 dT_add_43 (by decide) (fun c_43 => ?_) (fun c_43 => ?_)
        · skip
          exact absurd ht9 (Int64.not_lt.mpr c_43)
        · skip
          refine lv_lload_n hx hb dT_add_46 rfl (lv_at hl 2 rfl) ?_
          refine lv_ldc2 (v := 4294967295) hx hb hown (hts (.constantLong RT 56 4294967295) (by decide +kernel)) dT_add_47 ?_
          refine lc_le (tgt := 57) hx hb dT_add_50 dT_add_51 (by decide) (fun c_51 => ?_) (fun c_51 => ?_)
          · skip
            refine lv_aload_n hx hb dT_add_57 rfl (lv_at hl 0 rfl) ?_
            refine va_get (D := D) (ci := 2) (v := .int (nI n)) (C := RT) (T := TT) (N := 13) hx hb hts iT_add_T hown hK hP 11 rfl rfl 1 (by decide) (hts (.fieldLink RT 70 "TreeDesk" "count" "I") (by decide +kernel)) (fun _ h9 => h9) rfl dT_add_58 ?_
            refine lv_aload_n hx hb dT_add_61 rfl (lv_at hl 0 rfl) ?_
            refine va_get (D := D) (ci := 2) (v := .int (nI rm)) (C := RT) (T := TT) (N := 13) hx hb hts iT_add_T hown hK hP 11 rfl rfl 0 (by decide) (hts (.fieldLink RT 9 "TreeDesk" "room" "I") (by decide +kernel)) (fun _ h9 => h9) rfl dT_add_62 ?_
            refine lv_icmp_lt (tgt := 71) hx hb dT_add_65 (by decide) (fun c_65 => ?_) (fun c_65 => ?_)
            · skip
              have c_65 : n < rm := n_lt c_65 (by omega) (by omega)
              refine lv_aload_n hx hb dT_add_71 rfl (lv_at hl 0 rfl) ?_
              refine lv_iload_n hx hb dT_add_72 rfl (lv_at hl 1 rfl) ?_
              refine lv_lload_n hx hb dT_add_73 rfl (lv_at hl 2 rfl) ?_
              refine lv_lload hx hb dT_add_74 (lv_at hl 3 rfl) ?_
              refine rw_k (wc := [(o, .inr (2, [.int (nI rm), .int (nI n), .int (nI bs), .ref aP, .ref aH, .ref aC, .ref aT, .ref aB, .ref aZ, .ref aW, .ref aR, .ref oR, .ref oW])), (aP, .inl (cI, rm, .inl (pF P))), (aH, .inl (cI, rm, .inl (nF Hh))), (aC, .inl (cI, rm, .inl (nF Ch))), (aT, .inl (cJ, rm, .inr (.inl Tm))), (aB, .inl (cJ, rm, .inr (.inl Bt))), (aW, .inl (cJ, rm * 8, .inr (.inl Wk))), (oW, .inr (1, [.ref dv, .ref rs, .ref qt, .long kn])), (dv, .inl (cJ, 8, .inr (.inl fd))), (rs, .inl (cJ, 8, .inr (.inl fr))), (qt, .inl (cJ, 8, .inr (.inl fq)))]) (wr := [(aZ, .inl (cZ, rm, .inl (nF Zb))), (oR, .inr (0, [.ref aQ])), (aQ, .inl (cJ, 9, .inr (.inl (m_pr (Bt j) (Tm j - Tm (m_anc P (Hh j - (Hh j - 7)) j)) pr)))), (aR, .inl (cJ, 11, .inr (.inl ((m_med P Tm 11 0 (j + 1) Rk).1))))]) (va_runV (As := [.int (nI j), .long t, .long kn]) (rest := []) ⟨hx, hb, hml, hown, hts⟩ (c_append_old l D cI cJ cZ o rm n bs aP aH aC aT aB aZ aW aR oR oW P Hh Ch Tm Bt Wk dv rs qt kn fd fr fq j t (by omega) (by omega) (by omega) (by omega) (by omega) (by omega) (by omega) H.size) (cwV 3 hts gT_add_T_append_87 rfl rfl rfl (by decide +kernel) ⟨Nat.le_of_ble_eq_true rfl, Nat.le_of_ble_eq_true rfl⟩) (rw_preV (hP.sub [11, 12, 7, 0, 13, 8, 2, 3, 4, 5, 6] rfl) hK (hD.sub [11, 12, 7, 0, 13, 8, 2, 3, 4, 5, 6] (by decide) rfl) (va_recv hK hP (ci := 2) (q0 := 11) rfl rfl)) rfl rfl hl.1 rfl (lv_room (Nat.le_of_ble_eq_true rfl)) dT_add_76 ⟨Nat.le_of_ble_eq_true rfl, Nat.le_of_ble_eq_true rfl⟩) hP hD hS hA [11, 12, 7, 0, 13, 8, 2, 3, 4, 5, 6] [1, 9, 10, 14] rfl rfl (by decide) (by decide) (fun v9 w9 H locs hp9 hP hD hS => ?_)
              obtain ⟨rfl, rfl⟩ := hp9
              have hP : va_P D vwCl [(aZ, .inl (cZ, rm, .inl (nF Zb))), (oR, .inr (0, [.ref aQ])), (aQ, .inl (cJ, 9, .inr (.inl (m_pr (Bt j) (Tm j - Tm (m_anc P (Hh j - (Hh j - 7)) j)) pr)))), (aR, .inl (cJ, 11, .inr (.inl ((m_med P Tm 11 0 (j + 1) Rk).1)))), (o, .inr (2, [.int (nI rm), .int (nI (n + 1)), .int (nI (if m_cmp (m_sum fq n j Wk) n bs 8 0 ≤ 0 then bs else n)), .ref aP, .ref aH, .ref aC, .ref aT, .ref aB, .ref aZ, .ref aW, .ref aR, .ref oR, .ref oW])), (aP, .inl (cI, rm, .inl (pF (updN P n j)))), (aH, .inl (cI, rm, .inl (nF (updN Hh n (Hh j + 1))))), (aC, .inl (cI, rm, .inl (nF (updN Ch j (Ch j + 1))))), (aT, .inl (cJ, rm, .inr (.inl (vp_updL Tm n t)))), (aB, .inl (cJ, rm, .inr (.inl (vp_updL Bt n kn)))), (aW, .inl (cJ, rm * 8, .inr (.inl (m_sum fq n j Wk)))), (oW, .inr (1, [.ref dv, .ref rs, .ref qt, .long kn])), (dv, .inl (cJ, 8, .inr (.inl fd))), (rs, .inl (cJ, 8, .inr (.inl fr))), (qt, .inl (cJ, 8, .inr (.inl fq)))] H := hP
              have hD : va_D A [(aZ, .inl (cZ, rm, .inl (nF Zb))), (oR, .inr (0, [.ref aQ])), (aQ, .inl (cJ, 9, .inr (.inl (m_pr (Bt j) (Tm j - Tm (m_anc P (Hh j - (Hh j - 7)) j)) pr)))), (aR, .inl (cJ, 11, .inr (.inl ((m_med P Tm 11 0 (j + 1) Rk).1)))), (o, .inr (2, [.int (nI rm), .int (nI (n + 1)), .int (nI (if m_cmp (m_sum fq n j Wk) n bs 8 0 ≤ 0 then bs else n)), .ref aP, .ref aH, .ref aC, .ref aT, .ref aB, .ref aZ, .ref aW, .ref aR, .ref oR, .ref oW])), (aP, .inl (cI, rm, .inl (pF (updN P n j)))), (aH, .inl (cI, rm, .inl (nF (updN Hh n (Hh j + 1))))), (aC, .inl (cI, rm, .inl (nF (updN Ch j (Ch j + 1))))), (aT, .inl (cJ, rm, .inr (.inl (vp_updL Tm n t)))), (aB, .inl (cJ, rm, .inr (.inl (vp_updL Bt n kn)))), (aW, .inl (cJ, rm * 8, .inr (.inl (m_sum fq n j Wk)))), (oW, .inr (1, [.ref dv, .ref rs, .ref qt, .long kn])), (dv, .inl (cJ, 8, .inr (.inl fd))), (rs, .inl (cJ, 8, .inr (.inl fr))), (qt, .inl (cJ, 8, .inr (.inl fq)))] := hD
              refine W.eq (g2 := F0 m 79 ls [.int (nI n)]) rfl ?_
              exact rw_iret (w := [(o, .inr (2, [.int (nI rm), .int (nI (n + 1)), .int (nI (if m_cmp (m_sum fq n j Wk) n bs 8 0 ≤ 0 then bs else n)), .ref aP, .ref aH, .ref aC, .ref aT, .ref aB, .ref aZ, .ref aW, .ref aR, .ref oR, .ref oW])), (aP, .inl (cI, rm, .inl (pF (updN P n j)))), (aH, .inl (cI, rm, .inl (nF (updN Hh n (Hh j + 1))))), (aC, .inl (cI, rm, .inl (nF (updN Ch j (Ch j + 1))))), (aT, .inl (cJ, rm, .inr (.inl (vp_updL Tm n t)))), (aB, .inl (cJ, rm, .inr (.inl (vp_updL Bt n kn)))), (aZ, .inl (cZ, rm, .inl (nF Zb))), (aW, .inl (cJ, rm * 8, .inr (.inl (m_sum fq n j Wk)))), (aR, .inl (cJ, 11, .inr (.inl ((m_med P Tm 11 0 (j + 1) Rk).1)))), (oR, .inr (0, [.ref aQ])), (aQ, .inl (cJ, 9, .inr (.inl (m_pr (Bt j) (Tm j - Tm (m_anc P (Hh j - (Hh j - 7)) j)) pr)))), (oW, .inr (1, [.ref dv, .ref rs, .ref qt, .long kn])), (dv, .inl (cJ, 8, .inr (.inl fd))), (rs, .inl (cJ, 8, .inr (.inl fr))), (qt, .inl (cJ, 8, .inr (.inl fq)))]) hQ hx hb hr hlocks dT_add_79 (hP.sub [4, 5, 6, 7, 8, 9, 0, 10, 3, 1, 2, 11, 12, 13, 14] rfl) (hD.sub [4, 5, 6, 7, 8, 9, 0, 10, 3, 1, 2, 11, 12, 13, 14] (by decide) rfl) hS ⟨rfl, rfl⟩
            · skip
              have c_65 : rm ≤ n := n_nlt c_65 (by omega) (by omega)
              omega
          · skip
            exact absurd ht8 c_51
      · skip
        exact absurd hb9 c_30
    · skip
      rw [← nI_0] at c_16
      have c_16 : ¬ (Zb j) = 0 := n_ne c_16
      omega
  · skip
    rw [← nI_0] at c_5
    have c_5 : 1 = 0 := n_eq c_5 (by omega) (by omega)
    omega
