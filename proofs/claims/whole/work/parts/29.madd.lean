abbrev rm_k_join : Room := { frames := 2, cells := 0, slots := 0, locals := 49 }
set_option maxRecDepth 100000 in
set_option maxHeartbeats 4000000 in
theorem k_join (l : Launch) (D : va_G) (cI cJ cZ : ClassId) (o : Nat) (mo : Nat) (n : Nat) (aP : Nat) (aH : Nat) (aT : Nat) (aB : Nat) (aZ : Nat) (aS : Nat) (aa : Nat) (ab : Nat) (ac : Nat) (aR : Nat) (P : Nat → Nat) (Hh : Nat → Nat) (Tm : Nat → Int64) (Bt : Nat → Int64) (Zb : Nat → Nat) (Sm : Nat → Nat) (α : Nat → Nat) (β : Nat → Nat) (γ : Nat → Nat) (j : Nat) (t : Int64) (v : Nat) (hn0 : 0 < n) (hn3 : n < 300) (hj : j < n) (hHj : Hh j < 300) (hv : v < 4294967296) (hα8 : by8 α) (hβ8 : by8 β) (hγ8 : by8 γ) (hS8 : by8 Sm) : rw_C l yM_join wM_join rm_k_join D vwCl (gT cI cJ cZ) [.ref o, .int (nI j), .long t, .long (lN v)] [(o, .inr (3, [.int (nI mo), .int (nI n), .ref aP, .ref aH, .ref aT, .ref aB, .ref aZ, .ref aS, .ref aa, .ref ab, .ref ac, .ref aR])), (aP, .inl (cI, 300, .inl (pF P))), (aH, .inl (cI, 300, .inl (nF Hh))), (aT, .inl (cJ, 300, .inr (.inl Tm))), (aB, .inl (cJ, 300, .inr (.inl Bt))), (aZ, .inl (cZ, 300, .inl (nF Zb))), (aS, .inl (cI, 12000, .inl (nF Sm))), (aa, .inl (cI, 40, .inl (nF α))), (ab, .inl (cI, 40, .inl (nF β))), (ac, .inl (cI, 40, .inl (nF γ)))] (fun v9 w9 => v9 = none ∧ w9 = [(o, .inr (3, [.int (nI mo), .int (nI (n + 1)), .ref aP, .ref aH, .ref aT, .ref aB, .ref aZ, .ref aS, .ref aa, .ref ab, .ref ac, .ref aR])), (aP, .inl (cI, 300, .inl (pF (updN P n j)))), (aH, .inl (cI, 300, .inl (nF (updN Hh n (Hh j + 1))))), (aT, .inl (cJ, 300, .inr (.inl (vp_updL Tm n t)))), (aB, .inl (cJ, 300, .inr (.inl (vp_updL Bt n (lN v))))), (aZ, .inl (cZ, 300, .inl (nF (updN Zb n 0)))), (aS, .inl (cI, 12000, .inl (nF (r_sumL (r_quo (r_open v α) β γ).1 n j 40 0 0 Sm)))), (aa, .inl (cI, 40, .inl (nF ((r_quo (r_open v α) β γ).1)))), (ab, .inl (cI, 40, .inl (nF (r_inc (r_open v α) β)))), (ac, .inl (cI, 40, .inl (nF ((r_quo (r_open v α) β γ).2))))]) 0 0 := by
  refine rw_of (cc := cM_join) (maxL := 10) (ret := none) (by decide) rfl (Nat.le_of_ble_eq_true rfl) ?_
  intro p e s m args below meth c Q A ls hx hb hr hml hown hts hlocks hin hK hP hD hA hl hQ
  have hS : va_S A s.heap s.heap [] := va_S.rf
  have hl : lv_has ls 10 [(0, .ref o), (1, .int (nI j)), (2, .long t), (4, .long (lN v))] := hl
  have hown : s.vm.findClass RM = some m.cls := hown
  obtain ⟨H, hHe⟩ : ∃ H : Heap, H = s.heap := ⟨_, rfl⟩
  rw [← hHe] at hP
  have hS : va_S A s.heap H [] := by rw [hHe]; exact va_S.rf
  suffices h9 : W p l e rm_k_join s m args below meth c H [] 0 0 Q (F0 m 0 ls []) by rw [hHe] at h9; exact h9
  clear hHe
  refine lv_aload_n hx hb dM_join_0 rfl (lv_at hl 0 rfl) ?_
  refine va_get (D := D) (ci := 3) (v := .int (nI n)) (C := RM) (T := TM) (N := 12) hx hb hts iM_join_M hown hK hP 0 rfl rfl 1 (by decide) (hts (.fieldLink RM 54 "TreeDeskModel" "many" "I") (by decide +kernel)) (fun _ h9 => h9) rfl dM_join_1 ?_
  refine lv_istore (lv' := [(6, .int (nI n)), (0, .ref o), (1, .int (nI j)), (2, .long t), (4, .long (lN v))]) hx hb dM_join_4 hl (by decide) rfl (fun ls hl => ?_)
  refine lv_aload_n hx hb dM_join_6 rfl (lv_at hl 1 rfl) ?_
  refine va_get (D := D) (ci := 3) (v := .ref aP) (C := RM) (T := TM) (N := 12) hx hb hts iM_join_M hown hK hP 0 rfl rfl 2 (by decide) (hts (.fieldLink RM 7 "TreeDeskModel" "parent" "[I") (by decide +kernel)) (fun _ h9 => h9) rfl dM_join_7 ?_
  refine lv_iload hx hb dM_join_10 (lv_at hl 0 rfl) ?_
  refine lv_iload_n hx hb dM_join_12 rfl (lv_at hl 2 rfl) ?_
  refine ar_ist (j := n) hx hb hK hP hD hS 1 0 rfl rfl dM_join_13 (by omega) (by omega) (fun H locs hP hD hS => ?_)
  have hP : va_P D vwCl [(o, .inr (3, [.int (nI mo), .int (nI n), .ref aP, .ref aH, .ref aT, .ref aB, .ref aZ, .ref aS, .ref aa, .ref ab, .ref ac, .ref aR])), (aP, .inl (cI, 300, .inl (upd (pF P) n (nI j)))), (aH, .inl (cI, 300, .inl (nF Hh))), (aT, .inl (cJ, 300, .inr (.inl Tm))), (aB, .inl (cJ, 300, .inr (.inl Bt))), (aZ, .inl (cZ, 300, .inl (nF Zb))), (aS, .inl (cI, 12000, .inl (nF Sm))), (aa, .inl (cI, 40, .inl (nF α))), (ab, .inl (cI, 40, .inl (nF β))), (ac, .inl (cI, 40, .inl (nF γ)))] H := hP
  have hD : va_D A [(o, .inr (3, [.int (nI mo), .int (nI n), .ref aP, .ref aH, .ref aT, .ref aB, .ref aZ, .ref aS, .ref aa, .ref ab, .ref ac, .ref aR])), (aP, .inl (cI, 300, .inl (upd (pF P) n (nI j)))), (aH, .inl (cI, 300, .inl (nF Hh))), (aT, .inl (cJ, 300, .inr (.inl Tm))), (aB, .inl (cJ, 300, .inr (.inl Bt))), (aZ, .inl (cZ, 300, .inl (nF Zb))), (aS, .inl (cI, 12000, .inl (nF Sm))), (aa, .inl (cI, 40, .inl (nF α))), (ab, .inl (cI, 40, .inl (nF β))), (ac, .inl (cI, 40, .inl (nF γ)))] := hD
  have e_w13 : upd (pF P) n (nI j) = pF (updN P n j) := pF_u P j hn0
  rw [e_w13] at hP hD
  refine lv_aload_n hx hb dM_join_14 rfl (lv_at hl 1 rfl) ?_
  refine va_get (D := D) (ci := 3) (v := .ref aH) (C := RM) (T := TM) (N := 12) hx hb hts iM_join_M hown hK hP 0 rfl rfl 3 (by decide) (hts (.fieldLink RM 13 "TreeDeskModel" "height" "[I") (by decide +kernel)) (fun _ h9 => h9) rfl dM_join_15 ?_
  refine lv_iload hx hb dM_join_18 (lv_at hl 0 rfl) ?_
  refine lv_iload_n hx hb dM_join_20 rfl (lv_at hl 2 rfl) ?_
  refine lv_if_ge (tgt := 28) hx hb dM_join_21 (by decide) (fun c_21 => ?_) (fun c_21 => ?_)
  · skip
    rw [← nI_0] at c_21
    have c_21 : 0 ≤ j := n_le c_21 (by omega) (by omega)
    refine lv_aload_n hx hb dM_join_28 rfl (lv_at hl 1 rfl) ?_
    refine va_get (D := D) (ci := 3) (v := .ref aH) (C := RM) (T := TM) (N := 12) hx hb hts iM_join_M hown hK hP 0 rfl rfl 3 (by decide) (hts (.fieldLink RM 13 "TreeDeskModel" "height" "[I") (by decide +kernel)) (fun _ h9 => h9) rfl dM_join_29 ?_
    refine lv_iload_n hx hb dM_join_32 rfl (lv_at hl 2 rfl) ?_
    refine ar_ild (j := j) hx hb hK hP 2 0 rfl rfl dM_join_33 (by omega) (by omega) ?_
    refine tp_i (y := nI (Hh j)) rfl ?_
    refine lv_iconst (v := nI 1) hx hb dM_join_34 (by decide) ?_
    refine lv_iadd hx hb dM_join_35 ?_
    refine tp_i (y := nI ((Hh j) + 1)) (nI_add _ _) ?_
    refine ar_ist (j := n) hx hb hK hP hD hS 2 0 rfl rfl dM_join_36 (by omega) (by omega) (fun H locs hP hD hS => ?_)
    have hP : va_P D vwCl [(o, .inr (3, [.int (nI mo), .int (nI n), .ref aP, .ref aH, .ref aT, .ref aB, .ref aZ, .ref aS, .ref aa, .ref ab, .ref ac, .ref aR])), (aP, .inl (cI, 300, .inl (pF (updN P n j)))), (aH, .inl (cI, 300, .inl (upd (nF Hh) n (nI ((Hh j) + 1))))), (aT, .inl (cJ, 300, .inr (.inl Tm))), (aB, .inl (cJ, 300, .inr (.inl Bt))), (aZ, .inl (cZ, 300, .inl (nF Zb))), (aS, .inl (cI, 12000, .inl (nF Sm))), (aa, .inl (cI, 40, .inl (nF α))), (ab, .inl (cI, 40, .inl (nF β))), (ac, .inl (cI, 40, .inl (nF γ)))] H := hP
    have hD : va_D A [(o, .inr (3, [.int (nI mo), .int (nI n), .ref aP, .ref aH, .ref aT, .ref aB, .ref aZ, .ref aS, .ref aa, .ref ab, .ref ac, .ref aR])), (aP, .inl (cI, 300, .inl (pF (updN P n j)))), (aH, .inl (cI, 300, .inl (upd (nF Hh) n (nI ((Hh j) + 1))))), (aT, .inl (cJ, 300, .inr (.inl Tm))), (aB, .inl (cJ, 300, .inr (.inl Bt))), (aZ, .inl (cZ, 300, .inl (nF Zb))), (aS, .inl (cI, 12000, .inl (nF Sm))), (aa, .inl (cI, 40, .inl (nF α))), (ab, .inl (cI, 40, .inl (nF β))), (ac, .inl (cI, 40, .inl (nF γ)))] := hD
    have e_w36 : upd (nF Hh) n (nI ((Hh j) + 1)) = nF (updN Hh n (Hh j + 1)) := nF_u Hh n _
    rw [e_w36] at hP hD
    refine lv_aload_n hx hb dM_join_37 rfl (lv_at hl 1 rfl) ?_
    refine va_get (D := D) (ci := 3) (v := .ref aT) (C := RM) (T := TM) (N := 12) hx hb hts iM_join_M hown hK hP 0 rfl rfl 4 (by decide) (hts (.fieldLink RM 16 "TreeDeskModel" "time" "[J") (by decide +kernel)) (fun _ h9 => h9) rfl dM_join_38 ?_
    refine lv_iload hx hb dM_join_41 (lv_at hl 0 rfl) ?_
    refine lv_lload_n hx hb dM_join_43 rfl (lv_at hl 3 rfl) ?_
    refine ar_lst (j := n) hx hb hK hP hD hS 3 1 rfl rfl dM_join_44 (by omega) (by omega) (fun H locs hP hD hS => ?_)
    have hP : va_P D vwCl [(o, .inr (3, [.int (nI mo), .int (nI n), .ref aP, .ref aH, .ref aT, .ref aB, .ref aZ, .ref aS, .ref aa, .ref ab, .ref ac, .ref aR])), (aP, .inl (cI, 300, .inl (pF (updN P n j)))), (aH, .inl (cI, 300, .inl (nF (updN Hh n (Hh j + 1))))), (aT, .inl (cJ, 300, .inr (.inl (vp_updL Tm n t)))), (aB, .inl (cJ, 300, .inr (.inl Bt))), (aZ, .inl (cZ, 300, .inl (nF Zb))), (aS, .inl (cI, 12000, .inl (nF Sm))), (aa, .inl (cI, 40, .inl (nF α))), (ab, .inl (cI, 40, .inl (nF β))), (ac, .inl (cI, 40, .inl (nF γ)))] H := hP
    have hD : va_D A [(o, .inr (3, [.int (nI mo), .int (nI n), .ref aP, .ref aH, .ref aT, .ref aB, .ref aZ, .ref aS, .ref aa, .ref ab, .ref ac, .ref aR])), (aP, .inl (cI, 300, .inl (pF (updN P n j)))), (aH, .inl (cI, 300, .inl (nF (updN Hh n (Hh j + 1))))), (aT, .inl (cJ, 300, .inr (.inl (vp_updL Tm n t)))), (aB, .inl (cJ, 300, .inr (.inl Bt))), (aZ, .inl (cZ, 300, .inl (nF Zb))), (aS, .inl (cI, 12000, .inl (nF Sm))), (aa, .inl (cI, 40, .inl (nF α))), (ab, .inl (cI, 40, .inl (nF β))), (ac, .inl (cI, 40, .inl (nF γ)))] := hD
    refine lv_aload_n hx hb dM_join_45 rfl (lv_at hl 1 rfl) ?_
    refine va_get (D := D) (ci := 3) (v := .ref aB) (C := RM) (T := TM) (N := 12) hx hb hts iM_join_M hown hK hP 0 rfl rfl 5 (by decide) (hts (.fieldLink RM 20 "TreeDeskModel" "bits" "[J") (by decide +kernel)) (fun _ h9 => h9) rfl dM_join_46 ?_
    refine lv_iload hx hb dM_join_49 (lv_at hl 0 rfl) ?_
    refine lv_lload hx hb dM_join_51 (lv_at hl 4 rfl) ?_
    refine ar_lst (j := n) hx hb hK hP hD hS 4 1 rfl rfl dM_join_53 (by omega) (by omega) (fun H locs hP hD hS => ?_)
    have hP : va_P D vwCl [(o, .inr (3, [.int (nI mo), .int (nI n), .ref aP, .ref aH, .ref aT, .ref aB, .ref aZ, .ref aS, .ref aa, .ref ab, .ref ac, .ref aR])), (aP, .inl (cI, 300, .inl (pF (updN P n j)))), (aH, .inl (cI, 300, .inl (nF (updN Hh n (Hh j + 1))))), (aT, .inl (cJ, 300, .inr (.inl (vp_updL Tm n t)))), (aB, .inl (cJ, 300, .inr (.inl (vp_updL Bt n (lN v))))), (aZ, .inl (cZ, 300, .inl (nF Zb))), (aS, .inl (cI, 12000, .inl (nF Sm))), (aa, .inl (cI, 40, .inl (nF α))), (ab, .inl (cI, 40, .inl (nF β))), (ac, .inl (cI, 40, .inl (nF γ)))] H := hP
    have hD : va_D A [(o, .inr (3, [.int (nI mo), .int (nI n), .ref aP, .ref aH, .ref aT, .ref aB, .ref aZ, .ref aS, .ref aa, .ref ab, .ref ac, .ref aR])), (aP, .inl (cI, 300, .inl (pF (updN P n j)))), (aH, .inl (cI, 300, .inl (nF (updN Hh n (Hh j + 1))))), (aT, .inl (cJ, 300, .inr (.inl (vp_updL Tm n t)))), (aB, .inl (cJ, 300, .inr (.inl (vp_updL Bt n (lN v))))), (aZ, .inl (cZ, 300, .inl (nF Zb))), (aS, .inl (cI, 12000, .inl (nF Sm))), (aa, .inl (cI, 40, .inl (nF α))), (ab, .inl (cI, 40, .inl (nF β))), (ac, .inl (cI, 40, .inl (nF γ)))] := hD
    refine lv_aload_n hx hb dM_join_54 rfl (lv_at hl 1 rfl) ?_
    refine va_get (D := D) (ci := 3) (v := .ref aZ) (C := RM) (T := TM) (N := 12) hx hb hts iM_join_M hown hK hP 0 rfl rfl 6 (by decide) (hts (.fieldLink RM 23 "TreeDeskModel" "bad" "[Z") (by decide +kernel)) (fun _ h9 => h9) rfl dM_join_55 ?_
    refine lv_iload hx hb dM_join_58 (lv_at hl 0 rfl) ?_
    refine lv_iconst (v := nI 0) hx hb dM_join_60 (by decide) ?_
    refine ar_zst (j := n) (x' := nI 0) hx hb hK hP hD hS 5 2 rfl rfl dM_join_61 (by omega) (by omega) rfl (fun H locs hP hD hS => ?_)
    have hP : va_P D vwCl [(o, .inr (3, [.int (nI mo), .int (nI n), .ref aP, .ref aH, .ref aT, .ref aB, .ref aZ, .ref aS, .ref aa, .ref ab, .ref ac, .ref aR])), (aP, .inl (cI, 300, .inl (pF (updN P n j)))), (aH, .inl (cI, 300, .inl (nF (updN Hh n (Hh j + 1))))), (aT, .inl (cJ, 300, .inr (.inl (vp_updL Tm n t)))), (aB, .inl (cJ, 300, .inr (.inl (vp_updL Bt n (lN v))))), (aZ, .inl (cZ, 300, .inl (upd (nF Zb) n (nI 0)))), (aS, .inl (cI, 12000, .inl (nF Sm))), (aa, .inl (cI, 40, .inl (nF α))), (ab, .inl (cI, 40, .inl (nF β))), (ac, .inl (cI, 40, .inl (nF γ)))] H := hP
    have hD : va_D A [(o, .inr (3, [.int (nI mo), .int (nI n), .ref aP, .ref aH, .ref aT, .ref aB, .ref aZ, .ref aS, .ref aa, .ref ab, .ref ac, .ref aR])), (aP, .inl (cI, 300, .inl (pF (updN P n j)))), (aH, .inl (cI, 300, .inl (nF (updN Hh n (Hh j + 1))))), (aT, .inl (cJ, 300, .inr (.inl (vp_updL Tm n t)))), (aB, .inl (cJ, 300, .inr (.inl (vp_updL Bt n (lN v))))), (aZ, .inl (cZ, 300, .inl (upd (nF Zb) n (nI 0)))), (aS, .inl (cI, 12000, .inl (nF Sm))), (aa, .inl (cI, 40, .inl (nF α))), (ab, .inl (cI, 40, .inl (nF β))), (ac, .inl (cI, 40, .inl (nF γ)))] := hD
    have e_w61 : upd (nF Zb) n (nI 0) = nF (updN Zb n 0) := nF_u Zb n 0
    rw [e_w61] at hP hD
    refine lv_aload_n hx hb dM_join_62 rfl (lv_at hl 1 rfl) ?_
    refine lv_dup hx hb dM_join_63 rfl ?_
    refine va_get (D := D) (ci := 3) (v := .int (nI n)) (C := RM) (T := TM) (N := 12) hx hb hts iM_join_M hown hK hP 0 rfl rfl 1 (by decide) (hts (.fieldLink RM 54 "TreeDeskModel" "many" "I") (by decide +kernel)) (fun _ h9 => h9) rfl dM_join_64 ?_
    refine lv_iconst (v := nI 1) hx hb dM_join_67 (by decide) ?_
    refine lv_iadd hx hb dM_join_68 ?_
    refine tp_i (y := nI (n + 1)) (nI_add _ _) ?_
    refine va_put (D := D) (ci := 3) (v := .int (nI (n + 1))) (ty := .int) (C := RM) (T := TM) (N := 12) hx hb hts iM_join_M tyM tyM_ok nmM hown hK hP hD hS 0 rfl rfl 1 (by decide) (hts (.fieldLink RM 54 "TreeDeskModel" "many" "I") (by decide +kernel)) (fun _ h9 => h9) rfl (by decide +kernel) rfl rfl (Nat.le_of_ble_eq_true rfl) dM_join_69 (fun H locs hP hD hS => ?_)
    have hP : va_P D vwCl [(o, .inr (3, [.int (nI mo), .int (nI (n + 1)), .ref aP, .ref aH, .ref aT, .ref aB, .ref aZ, .ref aS, .ref aa, .ref ab, .ref ac, .ref aR])), (aP, .inl (cI, 300, .inl (pF (updN P n j)))), (aH, .inl (cI, 300, .inl (nF (updN Hh n (Hh j + 1))))), (aT, .inl (cJ, 300, .inr (.inl (vp_updL Tm n t)))), (aB, .inl (cJ, 300, .inr (.inl (vp_updL Bt n (lN v))))), (aZ, .inl (cZ, 300, .inl (nF (updN Zb n 0)))), (aS, .inl (cI, 12000, .inl (nF Sm))), (aa, .inl (cI, 40, .inl (nF α))), (ab, .inl (cI, 40, .inl (nF β))), (ac, .inl (cI, 40, .inl (nF γ)))] H := hP
    have hD : va_D A [(o, .inr (3, [.int (nI mo), .int (nI (n + 1)), .ref aP, .ref aH, .ref aT, .ref aB, .ref aZ, .ref aS, .ref aa, .ref ab, .ref ac, .ref aR])), (aP, .inl (cI, 300, .inl (pF (updN P n j)))), (aH, .inl (cI, 300, .inl (nF (updN Hh n (Hh j + 1))))), (aT, .inl (cJ, 300, .inr (.inl (vp_updL Tm n t)))), (aB, .inl (cJ, 300, .inr (.inl (vp_updL Bt n (lN v))))), (aZ, .inl (cZ, 300, .inl (nF (updN Zb n 0)))), (aS, .inl (cI, 12000, .inl (nF Sm))), (aa, .inl (cI, 40, .inl (nF α))), (ab, .inl (cI, 40, .inl (nF β))), (ac, .inl (cI, 40, .inl (nF γ)))] := hD
    refine lv_lload hx hb dM_join_72 (lv_at hl 4 rfl) ?_
    refine lv_aload_n hx hb dM_join_74 rfl (lv_at hl 1 rfl) ?_
    refine va_get (D := D) (ci := 3) (v := .ref aa) (C := RM) (T := TM) (N := 12) hx hb hts iM_join_M hown hK hP 0 rfl rfl 8 (by decide) (hts (.fieldLink RM 30 "TreeDeskModel" "a" "[I") (by decide +kernel)) (fun _ h9 => h9) rfl dM_join_75 ?_
    refine rw_k (wc := [(aa, .inl (cI, 40, .inl (nF α)))]) (wr := [(o, .inr (3, [.int (nI mo), .int (nI (n + 1)), .ref aP, .ref aH, .ref aT, .ref aB, .ref aZ, .ref aS, .ref aa, .ref ab, .ref ac, .ref aR])), (aP, .inl (cI, 300, .inl (pF (updN P n j)))), (aH, .inl (cI, 300, .inl (nF (updN Hh n (Hh j + 1))))), (aT, .inl (cJ, 300, .inr (.inl (vp_updL Tm n t)))), (aB, .inl (cJ, 300, .inr (.inl (vp_updL Bt n (lN v))))), (aZ, .inl (cZ, 300, .inl (nF (updN Zb n 0)))), (aS, .inl (cI, 12000, .inl (nF Sm))), (ab, .inl (cI, 40, .inl (nF β))), (ac, .inl (cI, 40, .inl (nF γ)))]) (va_runS (As := [.long (lN v), .ref aa]) (rest := []) ⟨hx, hb, hml, hown, hts⟩ (k_open l D cI cJ cZ aa α v hv H.size) (va_cwS 2 hts gM_join_M_open_57 rfl rfl rfl (by decide +kernel) ⟨Nat.le_of_ble_eq_true rfl, Nat.le_of_ble_eq_true rfl⟩) (rw_preS (hP.sub [7] rfl) hK (hD.sub [7] (by decide) rfl)) rfl rfl hl.1 rfl (lv_room (Nat.le_of_ble_eq_true rfl)) dM_join_78 ⟨Nat.le_of_ble_eq_true rfl, Nat.le_of_ble_eq_true rfl⟩) hP hD hS hA [7] [0, 1, 2, 3, 4, 5, 6, 8, 9] rfl rfl (by decide) (by decide) (fun v9 w9 H locs hp9 hP hD hS => ?_)
    obtain ⟨rfl, rfl⟩ := hp9
    have hP : va_P D vwCl [(o, .inr (3, [.int (nI mo), .int (nI (n + 1)), .ref aP, .ref aH, .ref aT, .ref aB, .ref aZ, .ref aS, .ref aa, .ref ab, .ref ac, .ref aR])), (aP, .inl (cI, 300, .inl (pF (updN P n j)))), (aH, .inl (cI, 300, .inl (nF (updN Hh n (Hh j + 1))))), (aT, .inl (cJ, 300, .inr (.inl (vp_updL Tm n t)))), (aB, .inl (cJ, 300, .inr (.inl (vp_updL Bt n (lN v))))), (aZ, .inl (cZ, 300, .inl (nF (updN Zb n 0)))), (aS, .inl (cI, 12000, .inl (nF Sm))), (ab, .inl (cI, 40, .inl (nF β))), (ac, .inl (cI, 40, .inl (nF γ))), (aa, .inl (cI, 40, .inl (nF (r_open v α))))] H := hP
    have hD : va_D A [(o, .inr (3, [.int (nI mo), .int (nI (n + 1)), .ref aP, .ref aH, .ref aT, .ref aB, .ref aZ, .ref aS, .ref aa, .ref ab, .ref ac, .ref aR])), (aP, .inl (cI, 300, .inl (pF (updN P n j)))), (aH, .inl (cI, 300, .inl (nF (updN Hh n (Hh j + 1))))), (aT, .inl (cJ, 300, .inr (.inl (vp_updL Tm n t)))), (aB, .inl (cJ, 300, .inr (.inl (vp_updL Bt n (lN v))))), (aZ, .inl (cZ, 300, .inl (nF (updN Zb n 0)))), (aS, .inl (cI, 12000, .inl (nF Sm))), (ab, .inl (cI, 40, .inl (nF β))), (ac, .inl (cI, 40, .inl (nF γ))), (aa, .inl (cI, 40, .inl (nF (r_open v α))))] := hD
    refine W.eq (g2 := F0 m 81 ls []) rfl ?_
    refine lv_aload_n hx hb dM_join_81 rfl (lv_at hl 1 rfl) ?_
    refine rw_k (wc := [(o, .inr (3, [.int (nI mo), .int (nI (n + 1)), .ref aP, .ref aH, .ref aT, .ref aB, .ref aZ, .ref aS, .ref aa, .ref ab, .ref ac, .ref aR])), (aa, .inl (cI, 40, .inl (nF (r_open v α)))), (ab, .inl (cI, 40, .inl (nF β))), (ac, .inl (cI, 40, .inl (nF γ)))]) (wr := [(aP, .inl (cI, 300, .inl (pF (updN P n j)))), (aH, .inl (cI, 300, .inl (nF (updN Hh n (Hh j + 1))))), (aT, .inl (cJ, 300, .inr (.inl (vp_updL Tm n t)))), (aB, .inl (cJ, 300, .inr (.inl (vp_updL Bt n (lN v))))), (aZ, .inl (cZ, 300, .inl (nF (updN Zb n 0)))), (aS, .inl (cI, 12000, .inl (nF Sm)))]) (va_runV (As := []) (rest := []) ⟨hx, hb, hml, hown, hts⟩ (k_quotient l D cI cJ cZ o mo (n + 1) aP aH aT aB aZ aS aa ab ac aR (r_open v α) β γ (r_open_by hα8) hβ8 hγ8 H.size) (cwV 0 hts gM_join_M_quotient_61 rfl rfl rfl (by decide +kernel) ⟨Nat.le_of_ble_eq_true rfl, Nat.le_of_ble_eq_true rfl⟩) (rw_preV (hP.sub [0, 9, 7, 8] rfl) hK (hD.sub [0, 9, 7, 8] (by decide) rfl) (va_recv hK hP (ci := 3) (q0 := 0) rfl rfl)) rfl rfl hl.1 rfl (lv_room (Nat.le_of_ble_eq_true rfl)) dM_join_82 ⟨Nat.le_of_ble_eq_true rfl, Nat.le_of_ble_eq_true rfl⟩) hP hD hS hA [0, 9, 7, 8] [1, 2, 3, 4, 5, 6] rfl rfl (by decide) (by decide) (fun v9 w9 H locs hp9 hP hD hS => ?_)
    obtain ⟨rfl, rfl⟩ := hp9
    have hP : va_P D vwCl [(aP, .inl (cI, 300, .inl (pF (updN P n j)))), (aH, .inl (cI, 300, .inl (nF (updN Hh n (Hh j + 1))))), (aT, .inl (cJ, 300, .inr (.inl (vp_updL Tm n t)))), (aB, .inl (cJ, 300, .inr (.inl (vp_updL Bt n (lN v))))), (aZ, .inl (cZ, 300, .inl (nF (updN Zb n 0)))), (aS, .inl (cI, 12000, .inl (nF Sm))), (o, .inr (3, [.int (nI mo), .int (nI (n + 1)), .ref aP, .ref aH, .ref aT, .ref aB, .ref aZ, .ref aS, .ref aa, .ref ab, .ref ac, .ref aR])), (aa, .inl (cI, 40, .inl (nF ((r_quo (r_open v α) β γ).1)))), (ab, .inl (cI, 40, .inl (nF (r_inc (r_open v α) β)))), (ac, .inl (cI, 40, .inl (nF ((r_quo (r_open v α) β γ).2))))] H := hP
    have hD : va_D A [(aP, .inl (cI, 300, .inl (pF (updN P n j)))), (aH, .inl (cI, 300, .inl (nF (updN Hh n (Hh j + 1))))), (aT, .inl (cJ, 300, .inr (.inl (vp_updL Tm n t)))), (aB, .inl (cJ, 300, .inr (.inl (vp_updL Bt n (lN v))))), (aZ, .inl (cZ, 300, .inl (nF (updN Zb n 0)))), (aS, .inl (cI, 12000, .inl (nF Sm))), (o, .inr (3, [.int (nI mo), .int (nI (n + 1)), .ref aP, .ref aH, .ref aT, .ref aB, .ref aZ, .ref aS, .ref aa, .ref ab, .ref ac, .ref aR])), (aa, .inl (cI, 40, .inl (nF ((r_quo (r_open v α) β γ).1)))), (ab, .inl (cI, 40, .inl (nF (r_inc (r_open v α) β)))), (ac, .inl (cI, 40, .inl (nF ((r_quo (r_open v α) β γ).2))))] := hD
    refine W.eq (g2 := F0 m 85 ls []) rfl ?_
    refine lv_iconst (v := nI 0) hx hb dM_join_85 (by decide) ?_
    refine lv_istore (lv' := [(7, .int (nI 0)), (6, .int (nI n)), (0, .ref o), (1, .int (nI j)), (2, .long t), (4, .long (lN v))]) hx hb dM_join_86 hl (by decide) rfl (fun ls hl => ?_)
    refine lv_iconst (v := nI 0) hx hb dM_join_88 (by decide) ?_
    refine lv_istore (lv' := [(8, .int (nI 0)), (7, .int (nI 0)), (6, .int (nI n)), (0, .ref o), (1, .int (nI j)), (2, .long t), (4, .long (lN v))]) hx hb dM_join_89 hl (by decide) rfl (fun ls hl => ?_)
    have lp_91 : ∀ (n_91 : Nat) (d i cy : Nat) (S9 : Nat → Nat), (d < n_91) → (i + d = 40) → (cy < 100000) → (by8 S9) → (r_sumL (r_quo (r_open v α) β γ).1 n j d i cy S9 = r_sumL (r_quo (r_open v α) β γ).1 n j 40 0 0 Sm) → ∀ (H : Heap) (locs : List Loc), va_P D vwCl [(o, .inr (3, [.int (nI mo), .int (nI (n + 1)), .ref aP, .ref aH, .ref aT, .ref aB, .ref aZ, .ref aS, .ref aa, .ref ab, .ref ac, .ref aR])), (aP, .inl (cI, 300, .inl (pF (updN P n j)))), (aH, .inl (cI, 300, .inl (nF (updN Hh n (Hh j + 1))))), (aT, .inl (cJ, 300, .inr (.inl (vp_updL Tm n t)))), (aB, .inl (cJ, 300, .inr (.inl (vp_updL Bt n (lN v))))), (aZ, .inl (cZ, 300, .inl (nF (updN Zb n 0)))), (aS, .inl (cI, 12000, .inl (nF S9))), (aa, .inl (cI, 40, .inl (nF ((r_quo (r_open v α) β γ).1)))), (ab, .inl (cI, 40, .inl (nF (r_inc (r_open v α) β)))), (ac, .inl (cI, 40, .inl (nF ((r_quo (r_open v α) β γ).2))))] H → va_D A [(o, .inr (3, [.int (nI mo), .int (nI (n + 1)), .ref aP, .ref aH, .ref aT, .ref aB, .ref aZ, .ref aS, .ref aa, .ref ab, .ref ac, .ref aR])), (aP, .inl (cI, 300, .inl (pF (updN P n j)))), (aH, .inl (cI, 300, .inl (nF (updN Hh n (Hh j + 1))))), (aT, .inl (cJ, 300, .inr (.inl (vp_updL Tm n t)))), (aB, .inl (cJ, 300, .inr (.inl (vp_updL Bt n (lN v))))), (aZ, .inl (cZ, 300, .inl (nF (updN Zb n 0)))), (aS, .inl (cI, 12000, .inl (nF S9))), (aa, .inl (cI, 40, .inl (nF ((r_quo (r_open v α) β γ).1)))), (ab, .inl (cI, 40, .inl (nF (r_inc (r_open v α) β)))), (ac, .inl (cI, 40, .inl (nF ((r_quo (r_open v α) β γ).2))))] → va_S A s.heap H locs → ∀ (ls : Array Slot), lv_has ls 10 [(0, .ref o), (1, .int (nI j)), (6, .int (nI n)), (7, .int (nI cy)), (8, .int (nI i))] → W p l e rm_k_join s m args below meth c H locs 0 0 Q (F0 m 91 ls []) := by
      intro n_91
      induction n_91 with
      | zero => intro d i cy S9 hn hd hcy hS98 hg H locs hP hD hS ls hl; exact absurd hn (by omega)
      | succ n_91 ih_91 =>
        intro d i cy S9 hn hd hcy hS98 hg H locs hP hD hS ls hl
        refine lv_iload hx hb dM_join_91 (lv_at hl 4 rfl) ?_
        refine lv_bipush (v := nI 40) hx hb dM_join_93 (by decide) ?_
        refine lv_icmp_ge (tgt := 164) hx hb dM_join_95 (by decide) (fun c_95 => ?_) (fun c_95 => ?_)
        · skip
          have c_95 : 40 ≤ i := n_le c_95 (by omega) (by omega)
          have hd0 : d = 0 := by omega
          subst hd0
          exact rw_vret (w := [(o, .inr (3, [.int (nI mo), .int (nI (n + 1)), .ref aP, .ref aH, .ref aT, .ref aB, .ref aZ, .ref aS, .ref aa, .ref ab, .ref ac, .ref aR])), (aP, .inl (cI, 300, .inl (pF (updN P n j)))), (aH, .inl (cI, 300, .inl (nF (updN Hh n (Hh j + 1))))), (aT, .inl (cJ, 300, .inr (.inl (vp_updL Tm n t)))), (aB, .inl (cJ, 300, .inr (.inl (vp_updL Bt n (lN v))))), (aZ, .inl (cZ, 300, .inl (nF (updN Zb n 0)))), (aS, .inl (cI, 12000, .inl (nF S9))), (aa, .inl (cI, 40, .inl (nF ((r_quo (r_open v α) β γ).1)))), (ab, .inl (cI, 40, .inl (nF (r_inc (r_open v α) β)))), (ac, .inl (cI, 40, .inl (nF ((r_quo (r_open v α) β γ).2))))]) hQ hx hb hr hlocks dM_join_164 (hP.sub [0, 1, 2, 3, 4, 5, 6, 7, 8, 9] rfl) (hD.sub [0, 1, 2, 3, 4, 5, 6, 7, 8, 9] (by decide) rfl) hS ⟨rfl, by rw [show r_sumL (r_quo (r_open v α) β γ).1 n j 40 0 0 Sm = S9 from hg.symm]⟩
        · skip
          have c_95 : i < 40 := n_nle c_95 (by omega) (by omega)
          obtain ⟨d, rfl⟩ : ∃ d' : Nat, d = d' + 1 := ⟨d - 1, by omega⟩
          have hqa := r_quo_bd (α := r_open v α) (β := β) (γ := γ) (r_open_by hα8) i
          have hsi := hS98 (40 * j + i)
          refine lv_aload_n hx hb dM_join_98 rfl (lv_at hl 0 rfl) ?_
          refine va_get (D := D) (ci := 3) (v := .ref aa) (C := RM) (T := TM) (N := 12) hx hb hts iM_join_M hown hK hP 0 rfl rfl 8 (by decide) (hts (.fieldLink RM 30 "TreeDeskModel" "a" "[I") (by decide +kernel)) (fun _ h9 => h9) rfl dM_join_99 ?_
          refine lv_iload hx hb dM_join_102 (lv_at hl 4 rfl) ?_
          refine ar_ild (j := i) hx hb hK hP 7 0 rfl rfl dM_join_104 (by omega) (by omega) ?_
          refine tp_i (y := nI ((r_quo (r_open v α) β γ).1 i)) rfl ?_
          refine lv_iload_n hx hb dM_join_105 rfl (lv_at hl 1 rfl) ?_
          refine lv_if_ge (tgt := 113) hx hb dM_join_106 (by decide) (fun c_106 => ?_) (fun c_106 => ?_)
          · skip
            rw [← nI_0] at c_106
            have c_106 : 0 ≤ j := n_le c_106 (by omega) (by omega)
            refine lv_aload_n hx hb dM_join_113 rfl (lv_at hl 0 rfl) ?_
            refine va_get (D := D) (ci := 3) (v := .ref aS) (C := RM) (T := TM) (N := 12) hx hb hts iM_join_M hown hK hP 0 rfl rfl 7 (by decide) (hts (.fieldLink RM 27 "TreeDeskModel" "sums" "[I") (by decide +kernel)) (fun _ h9 => h9) rfl dM_join_114 ?_
            refine lv_bipush (v := nI 40) hx hb dM_join_117 (by decide) ?_
            refine lv_iload_n hx hb dM_join_119 rfl (lv_at hl 1 rfl) ?_
            refine lv_imul hx hb dM_join_120 ?_
            refine tp_i (y := nI (40 * j)) (pk_mul _ _) ?_
            refine lv_iload hx hb dM_join_121 (lv_at hl 4 rfl) ?_
            refine lv_iadd hx hb dM_join_123 ?_
            refine tp_i (y := nI ((40 * j) + i)) (nI_add _ _) ?_
            refine ar_ild (j := (40 * j) + i) hx hb hK hP 6 0 rfl rfl dM_join_124 (by omega) (by omega) ?_
            refine tp_i (y := nI (S9 (40 * j + i))) rfl ?_
            refine lv_iadd hx hb dM_join_125 ?_
            refine tp_i (y := nI (((r_quo (r_open v α) β γ).1 i) + (S9 (40 * j + i)))) (nI_add _ _) ?_
            refine lv_iload hx hb dM_join_126 (lv_at hl 3 rfl) ?_
            refine lv_iadd hx hb dM_join_128 ?_
            refine tp_i (y := nI ((((r_quo (r_open v α) β γ).1 i) + (S9 (40 * j + i))) + cy)) (nI_add _ _) ?_
            refine lv_istore (lv' := [(9, .int (nI ((((r_quo (r_open v α) β γ).1 i) + (S9 (40 * j + i))) + cy))), (0, .ref o), (1, .int (nI j)), (6, .int (nI n)), (7, .int (nI cy)), (8, .int (nI i))]) hx hb dM_join_129 hl (by decide) rfl (fun ls hl => ?_)
            refine lv_aload_n hx hb dM_join_131 rfl (lv_at hl 1 rfl) ?_
            refine va_get (D := D) (ci := 3) (v := .ref aS) (C := RM) (T := TM) (N := 12) hx hb hts iM_join_M hown hK hP 0 rfl rfl 7 (by decide) (hts (.fieldLink RM 27 "TreeDeskModel" "sums" "[I") (by decide +kernel)) (fun _ h9 => h9) rfl dM_join_132 ?_
            refine lv_bipush (v := nI 40) hx hb dM_join_135 (by decide) ?_
            refine lv_iload hx hb dM_join_137 (lv_at hl 3 rfl) ?_
            refine lv_imul hx hb dM_join_139 ?_
            refine tp_i (y := nI (40 * n)) (pk_mul _ _) ?_
            refine lv_iload hx hb dM_join_140 (lv_at hl 5 rfl) ?_
            refine lv_iadd hx hb dM_join_142 ?_
            refine tp_i (y := nI ((40 * n) + i)) (nI_add _ _) ?_
            refine lv_iload hx hb dM_join_143 (lv_at hl 0 rfl) ?_
            refine lv_sipush (v := nI 256) hx hb dM_join_145 (by decide) ?_
            refine lv_irem hx hb dM_join_148 (nI_ne0 (by omega) (by omega)) ?_
            refine tp_i (y := nI (((((r_quo (r_open v α) β γ).1 i) + (S9 (40 * j + i))) + cy) % 256)) (pk_rem (by omega) (by omega) (by omega)) ?_
            refine ar_ist (j := (40 * n) + i) hx hb hK hP hD hS 6 0 rfl rfl dM_join_149 (by omega) (by omega) (fun H locs hP hD hS => ?_)
            have hP : va_P D vwCl [(o, .inr (3, [.int (nI mo), .int (nI (n + 1)), .ref aP, .ref aH, .ref aT, .ref aB, .ref aZ, .ref aS, .ref aa, .ref ab, .ref ac, .ref aR])), (aP, .inl (cI, 300, .inl (pF (updN P n j)))), (aH, .inl (cI, 300, .inl (nF (updN Hh n (Hh j + 1))))), (aT, .inl (cJ, 300, .inr (.inl (vp_updL Tm n t)))), (aB, .inl (cJ, 300, .inr (.inl (vp_updL Bt n (lN v))))), (aZ, .inl (cZ, 300, .inl (nF (updN Zb n 0)))), (aS, .inl (cI, 12000, .inl (upd (nF S9) ((40 * n) + i) (nI (((((r_quo (r_open v α) β γ).1 i) + (S9 (40 * j + i))) + cy) % 256))))), (aa, .inl (cI, 40, .inl (nF ((r_quo (r_open v α) β γ).1)))), (ab, .inl (cI, 40, .inl (nF (r_inc (r_open v α) β)))), (ac, .inl (cI, 40, .inl (nF ((r_quo (r_open v α) β γ).2))))] H := hP
            have hD : va_D A [(o, .inr (3, [.int (nI mo), .int (nI (n + 1)), .ref aP, .ref aH, .ref aT, .ref aB, .ref aZ, .ref aS, .ref aa, .ref ab, .ref ac, .ref aR])), (aP, .inl (cI, 300, .inl (pF (updN P n j)))), (aH, .inl (cI, 300, .inl (nF (updN Hh n (Hh j + 1))))), (aT, .inl (cJ, 300, .inr (.inl (vp_updL Tm n t)))), (aB, .inl (cJ, 300, .inr (.inl (vp_updL Bt n (lN v))))), (aZ, .inl (cZ, 300, .inl (nF (updN Zb n 0)))), (aS, .inl (cI, 12000, .inl (upd (nF S9) ((40 * n) + i) (nI (((((r_quo (r_open v α) β γ).1 i) + (S9 (40 * j + i))) + cy) % 256))))), (aa, .inl (cI, 40, .inl (nF ((r_quo (r_open v α) β γ).1)))), (ab, .inl (cI, 40, .inl (nF (r_inc (r_open v α) β)))), (ac, .inl (cI, 40, .inl (nF ((r_quo (r_open v α) β γ).2))))] := hD
            have e_w149 : upd (nF S9) ((40 * n) + i) (nI (((((r_quo (r_open v α) β γ).1 i) + (S9 (40 * j + i))) + cy) % 256)) = nF (updN S9 (40 * n + i) (((r_quo (r_open v α) β γ).1 i + S9 (40 * j + i) + cy) % 256)) := nF_u S9 _ _
            rw [e_w149] at hP hD
            refine lv_iload hx hb dM_join_150 (lv_at hl 0 rfl) ?_
            refine lv_sipush (v := nI 256) hx hb dM_join_152 (by decide) ?_
            refine lv_idiv hx hb dM_join_155 (nI_ne0 (by omega) (by omega)) ?_
            refine tp_i (y := nI (((((r_quo (r_open v α) β γ).1 i) + (S9 (40 * j + i))) + cy) / 256)) (pk_div (by omega) (by omega) (by omega)) ?_
            refine lv_istore (lv' := [(7, .int (nI (((((r_quo (r_open v α) β γ).1 i) + (S9 (40 * j + i))) + cy) / 256))), (9, .int (nI ((((r_quo (r_open v α) β γ).1 i) + (S9 (40 * j + i))) + cy))), (0, .ref o), (1, .int (nI j)), (6, .int (nI n)), (8, .int (nI i))]) hx hb dM_join_156 hl (by decide) rfl (fun ls hl => ?_)
            refine lv_iinc (v := nI (i + 1)) (lv' := [(8, .int (nI (i + 1))), (7, .int (nI (((((r_quo (r_open v α) β γ).1 i) + (S9 (40 * j + i))) + cy) / 256))), (9, .int (nI ((((r_quo (r_open v α) β γ).1 i) + (S9 (40 * j + i))) + cy))), (0, .ref o), (1, .int (nI j)), (6, .int (nI n))]) hx hb dM_join_158 hl (k := 5) rfl (nI_add _ 1) (by decide) rfl (fun ls hl => ?_)
            refine lv_goto (tgt := 91) hx hb dM_join_161 (by decide) ?_
            exact ih_91 d (i + 1) (((r_quo (r_open v α) β γ).1 i + S9 (40 * j + i) + cy) / 256) (updN S9 (40 * n + i) (((r_quo (r_open v α) β γ).1 i + S9 (40 * j + i) + cy) % 256)) (by omega) (by omega) (by omega) (by8_u hS98 (Nat.mod_lt _ (by omega))) hg _ _ (hP.sub [0, 1, 2, 3, 4, 5, 6, 7, 8, 9] rfl) (hD.sub [0, 1, 2, 3, 4, 5, 6, 7, 8, 9] (by decide) rfl) hS ls (lv_sub hl [3, 4, 5, 1, 0] rfl)
          · skip
            rw [← nI_0] at c_106
            have c_106 : j < 0 := n_nle c_106 (by omega) (by omega)
            omega
    exact lp_91 41 40 0 0 Sm (by omega) (by omega) (by omega) hS8 rfl _ _ (hP.sub [6, 0, 1, 2, 3, 4, 5, 7, 8, 9] rfl) (hD.sub [6, 0, 1, 2, 3, 4, 5, 7, 8, 9] (by decide) rfl) hS ls (lv_sub hl [3, 4, 2, 1, 0] rfl)
  · skip
    rw [← nI_0] at c_21
    have c_21 : j < 0 := n_nle c_21 (by omega) (by omega)
    omega

abbrev rm_k_join_root : Room := { frames := 2, cells := 0, slots := 0, locals := 49 }
set_option maxRecDepth 100000 in
set_option maxHeartbeats 4000000 in
theorem k_join_root (l : Launch) (D : va_G) (cI cJ cZ : ClassId) (o : Nat) (mo : Nat) (aP : Nat) (aH : Nat) (aT : Nat) (aB : Nat) (aZ : Nat) (aS : Nat) (aa : Nat) (ab : Nat) (ac : Nat) (aR : Nat) (t : Int64)  : rw_C l yM_join wM_join rm_k_join_root D vwCl (gT cI cJ cZ) [.ref o, .int (-1), .long t, .long (lN 545259519)] [(o, .inr (3, [.int (nI mo), .int 0, .ref aP, .ref aH, .ref aT, .ref aB, .ref aZ, .ref aS, .ref aa, .ref ab, .ref ac, .ref aR])), (aP, .inl (cI, 300, .inl (nF z0))), (aH, .inl (cI, 300, .inl (nF z0))), (aT, .inl (cJ, 300, .inr (.inl (fun _ => 0)))), (aB, .inl (cJ, 300, .inr (.inl (fun _ => 0)))), (aZ, .inl (cZ, 300, .inl (nF z0))), (aS, .inl (cI, 12000, .inl (nF z0))), (aa, .inl (cI, 40, .inl (nF z0))), (ab, .inl (cI, 40, .inl (nF z0))), (ac, .inl (cI, 40, .inl (nF z0)))] (fun v9 w9 => v9 = none ∧ w9 = [(o, .inr (3, [.int (nI mo), .int (nI 1), .ref aP, .ref aH, .ref aT, .ref aB, .ref aZ, .ref aS, .ref aa, .ref ab, .ref ac, .ref aR])), (aP, .inl (cI, 300, .inl (pF z0))), (aH, .inl (cI, 300, .inl (nF z0))), (aT, .inl (cJ, 300, .inr (.inl (vp_updL (fun _ => 0) 0 t)))), (aB, .inl (cJ, 300, .inr (.inl (vp_updL (fun _ => 0) 0 (lN 545259519))))), (aZ, .inl (cZ, 300, .inl (nF z0))), (aS, .inl (cI, 12000, .inl (nF (r_cpyL (r_quo (r_open 545259519 z0) z0 z0).1 40 0 0 z0)))), (aa, .inl (cI, 40, .inl (nF ((r_quo (r_open 545259519 z0) z0 z0).1)))), (ab, .inl (cI, 40, .inl (nF (r_inc (r_open 545259519 z0) z0)))), (ac, .inl (cI, 40, .inl (nF ((r_quo (r_open 545259519 z0) z0 z0).2))))]) 0 0 := by
  refine rw_of (cc := cM_join) (maxL := 10) (ret := none) (by decide) rfl (Nat.le_of_ble_eq_true rfl) ?_
  intro p e s m args below meth c Q A ls hx hb hr hml hown hts hlocks hin hK hP hD hA hl hQ
  have hS : va_S A s.heap s.heap [] := va_S.rf
  have hl : lv_has ls 10 [(0, .ref o), (1, .int (-1)), (2, .long t), (4, .long (lN 545259519))] := hl
  have hown : s.vm.findClass RM = some m.cls := hown
  obtain ⟨H, hHe⟩ : ∃ H : Heap, H = s.heap := ⟨_, rfl⟩
  rw [← hHe] at hP
  have hS : va_S A s.heap H [] := by rw [hHe]; exact va_S.rf
  suffices h9 : W p l e rm_k_join_root s m args below meth c H [] 0 0 Q (F0 m 0 ls []) by rw [hHe] at h9; exact h9
  clear hHe
  refine lv_aload_n hx hb dM_join_0 rfl (lv_at hl 0 rfl) ?_
  refine va_get (D := D) (ci := 3) (v := .int 0) (C := RM) (T := TM) (N := 12) hx hb hts iM_join_M hown hK hP 0 rfl rfl 1 (by decide) (hts (.fieldLink RM 54 "TreeDeskModel" "many" "I") (by decide +kernel)) (fun _ h9 => h9) rfl dM_join_1 ?_
  refine tp_i (y := nI 0) nI_0.symm ?_
  refine lv_istore (lv' := [(6, .int (nI 0)), (0, .ref o), (1, .int (-1)), (2, .long t), (4, .long (lN 545259519))]) hx hb dM_join_4 hl (by decide) rfl (fun ls hl => ?_)
  refine lv_aload_n hx hb dM_join_6 rfl (lv_at hl 1 rfl) ?_
  refine va_get (D := D) (ci := 3) (v := .ref aP) (C := RM) (T := TM) (N := 12) hx hb hts iM_join_M hown hK hP 0 rfl rfl 2 (by decide) (hts (.fieldLink RM 7 "TreeDeskModel" "parent" "[I") (by decide +kernel)) (fun _ h9 => h9) rfl dM_join_7 ?_
  refine lv_iload hx hb dM_join_10 (lv_at hl 0 rfl) ?_
  refine lv_iload_n hx hb dM_join_12 rfl (lv_at hl 2 rfl) ?_
  refine ar_ist (j := 0) hx hb hK hP hD hS 1 0 rfl rfl dM_join_13 (by omega) (by omega) (fun H locs hP hD hS => ?_)
  have hP : va_P D vwCl [(o, .inr (3, [.int (nI mo), .int 0, .ref aP, .ref aH, .ref aT, .ref aB, .ref aZ, .ref aS, .ref aa, .ref ab, .ref ac, .ref aR])), (aP, .inl (cI, 300, .inl (upd (nF z0) 0 (-1)))), (aH, .inl (cI, 300, .inl (nF z0))), (aT, .inl (cJ, 300, .inr (.inl (fun _ => 0)))), (aB, .inl (cJ, 300, .inr (.inl (fun _ => 0)))), (aZ, .inl (cZ, 300, .inl (nF z0))), (aS, .inl (cI, 12000, .inl (nF z0))), (aa, .inl (cI, 40, .inl (nF z0))), (ab, .inl (cI, 40, .inl (nF z0))), (ac, .inl (cI, 40, .inl (nF z0)))] H := hP
  have hD : va_D A [(o, .inr (3, [.int (nI mo), .int 0, .ref aP, .ref aH, .ref aT, .ref aB, .ref aZ, .ref aS, .ref aa, .ref ab, .ref ac, .ref aR])), (aP, .inl (cI, 300, .inl (upd (nF z0) 0 (-1)))), (aH, .inl (cI, 300, .inl (nF z0))), (aT, .inl (cJ, 300, .inr (.inl (fun _ => 0)))), (aB, .inl (cJ, 300, .inr (.inl (fun _ => 0)))), (aZ, .inl (cZ, 300, .inl (nF z0))), (aS, .inl (cI, 12000, .inl (nF z0))), (aa, .inl (cI, 40, .inl (nF z0))), (ab, .inl (cI, 40, .inl (nF z0))), (ac, .inl (cI, 40, .inl (nF z0)))] := hD
  have e_w13 : upd (nF z0) 0 (-1) = pF z0 := pF_z
  rw [e_w13] at hP hD
  refine lv_aload_n hx hb dM_join_14 rfl (lv_at hl 1 rfl) ?_
  refine va_get (D := D) (ci := 3) (v := .ref aH) (C := RM) (T := TM) (N := 12) hx hb hts iM_join_M hown hK hP 0 rfl rfl 3 (by decide) (hts (.fieldLink RM 13 "TreeDeskModel" "height" "[I") (by decide +kernel)) (fun _ h9 => h9) rfl dM_join_15 ?_
  refine lv_iload hx hb dM_join_18 (lv_at hl 0 rfl) ?_
  refine lv_iload_n hx hb dM_join_20 rfl (lv_at hl 2 rfl) ?_
  refine lv_if_ge (tgt := 28) hx hb dM_join_21 (by decide) (fun c_21 => ?_) (fun c_21 => ?_)
  · skip
    exact absurd c_21 (by decide)
  · skip
    refine lv_iconst (v := nI 0) hx hb dM_join_24 (by decide) ?_
    refine lv_goto (tgt := 36) hx hb dM_join_25 (by decide) ?_
    refine ar_ist (j := 0) hx hb hK hP hD hS 2 0 rfl rfl dM_join_36 (by omega) (by omega) (fun H locs hP hD hS => ?_)
    have hP : va_P D vwCl [(o, .inr (3, [.int (nI mo), .int 0, .ref aP, .ref aH, .ref aT, .ref aB, .ref aZ, .ref aS, .ref aa, .ref ab, .ref ac, .ref aR])), (aP, .inl (cI, 300, .inl (pF z0))), (aH, .inl (cI, 300, .inl (upd (nF z0) 0 (nI 0)))), (aT, .inl (cJ, 300, .inr (.inl (fun _ => 0)))), (aB, .inl (cJ, 300, .inr (.inl (fun _ => 0)))), (aZ, .inl (cZ, 300, .inl (nF z0))), (aS, .inl (cI, 12000, .inl (nF z0))), (aa, .inl (cI, 40, .inl (nF z0))), (ab, .inl (cI, 40, .inl (nF z0))), (ac, .inl (cI, 40, .inl (nF z0)))] H := hP
    have hD : va_D A [(o, .inr (3, [.int (nI mo), .int 0, .ref aP, .ref aH, .ref aT, .ref aB, .ref aZ, .ref aS, .ref aa, .ref ab, .ref ac, .ref aR])), (aP, .inl (cI, 300, .inl (pF z0))), (aH, .inl (cI, 300, .inl (upd (nF z0) 0 (nI 0)))), (aT, .inl (cJ, 300, .inr (.inl (fun _ => 0)))), (aB, .inl (cJ, 300, .inr (.inl (fun _ => 0)))), (aZ, .inl (cZ, 300, .inl (nF z0))), (aS, .inl (cI, 12000, .inl (nF z0))), (aa, .inl (cI, 40, .inl (nF z0))), (ab, .inl (cI, 40, .inl (nF z0))), (ac, .inl (cI, 40, .inl (nF z0)))] := hD
    have e_w36 : upd (nF z0) 0 (nI 0) = nF z0 := nF_zz
    rw [e_w36] at hP hD
    refine lv_aload_n hx hb dM_join_37 rfl (lv_at hl 1 rfl) ?_
    refine va_get (D := D) (ci := 3) (v := .ref aT) (C := RM) (T := TM) (N := 12) hx hb hts iM_join_M hown hK hP 0 rfl rfl 4 (by decide) (hts (.fieldLink RM 16 "TreeDeskModel" "time" "[J") (by decide +kernel)) (fun _ h9 => h9) rfl dM_join_38 ?_
    refine lv_iload hx hb dM_join_41 (lv_at hl 0 rfl) ?_
    refine lv_lload_n hx hb dM_join_43 rfl (lv_at hl 3 rfl) ?_
    refine ar_lst (j := 0) hx hb hK hP hD hS 3 1 rfl rfl dM_join_44 (by omega) (by omega) (fun H locs hP hD hS => ?_)
    have hP : va_P D vwCl [(o, .inr (3, [.int (nI mo), .int 0, .ref aP, .ref aH, .ref aT, .ref aB, .ref aZ, .ref aS, .ref aa, .ref ab, .ref ac, .ref aR])), (aP, .inl (cI, 300, .inl (pF z0))), (aH, .inl (cI, 300, .inl (nF z0))), (aT, .inl (cJ, 300, .inr (.inl (vp_updL (fun _ => 0) 0 t)))), (aB, .inl (cJ, 300, .inr (.inl (fun _ => 0)))), (aZ, .inl (cZ, 300, .inl (nF z0))), (aS, .inl (cI, 12000, .inl (nF z0))), (aa, .inl (cI, 40, .inl (nF z0))), (ab, .inl (cI, 40, .inl (nF z0))), (ac, .inl (cI, 40, .inl (nF z0)))] H := hP
    have hD : va_D A [(o, .inr (3, [.int (nI mo), .int 0, .ref aP, .ref aH, .ref aT, .ref aB, .ref aZ, .ref aS, .ref aa, .ref ab, .ref ac, .ref aR])), (aP, .inl (cI, 300, .inl (pF z0))), (aH, .inl (cI, 300, .inl (nF z0))), (aT, .inl (cJ, 300, .inr (.inl (vp_updL (fun _ => 0) 0 t)))), (aB, .inl (cJ, 300, .inr (.inl (fun _ => 0)))), (aZ, .inl (cZ, 300, .inl (nF z0))), (aS, .inl (cI, 12000, .inl (nF z0))), (aa, .inl (cI, 40, .inl (nF z0))), (ab, .inl (cI, 40, .inl (nF z0))), (ac, .inl (cI, 40, .inl (nF z0)))] := hD
    refine lv_aload_n hx hb dM_join_45 rfl (lv_at hl 1 rfl) ?_
    refine va_get (D := D) (ci := 3) (v := .ref aB) (C := RM) (T := TM) (N := 12) hx hb hts iM_join_M hown hK hP 0 rfl rfl 5 (by decide) (hts (.fieldLink RM 20 "TreeDeskModel" "bits" "[J") (by decide +kernel)) (fun _ h9 => h9) rfl dM_join_46 ?_
    refine lv_iload hx hb dM_join_49 (lv_at hl 0 rfl) ?_
    refine lv_lload hx hb dM_join_51 (lv_at hl 4 rfl) ?_
    refine ar_lst (j := 0) hx hb hK hP hD hS 4 1 rfl rfl dM_join_53 (by omega) (by omega) (fun H locs hP hD hS => ?_)
    have hP : va_P D vwCl [(o, .inr (3, [.int (nI mo), .int 0, .ref aP, .ref aH, .ref aT, .ref aB, .ref aZ, .ref aS, .ref aa, .ref ab, .ref ac, .ref aR])), (aP, .inl (cI, 300, .inl (pF z0))), (aH, .inl (cI, 300, .inl (nF z0))), (aT, .inl (cJ, 300, .inr (.inl (vp_updL (fun _ => 0) 0 t)))), (aB, .inl (cJ, 300, .inr (.inl (vp_updL (fun _ => 0) 0 (lN 545259519))))), (aZ, .inl (cZ, 300, .inl (nF z0))), (aS, .inl (cI, 12000, .inl (nF z0))), (aa, .inl (cI, 40, .inl (nF z0))), (ab, .inl (cI, 40, .inl (nF z0))), (ac, .inl (cI, 40, .inl (nF z0)))] H := hP
    have hD : va_D A [(o, .inr (3, [.int (nI mo), .int 0, .ref aP, .ref aH, .ref aT, .ref aB, .ref aZ, .ref aS, .ref aa, .ref ab, .ref ac, .ref aR])), (aP, .inl (cI, 300, .inl (pF z0))), (aH, .inl (cI, 300, .inl (nF z0))), (aT, .inl (cJ, 300, .inr (.inl (vp_updL (fun _ => 0) 0 t)))), (aB, .inl (cJ, 300, .inr (.inl (vp_updL (fun _ => 0) 0 (lN 545259519))))), (aZ, .inl (cZ, 300, .inl (nF z0))), (aS, .inl (cI, 12000, .inl (nF z0))), (aa, .inl (cI, 40, .inl (nF z0))), (ab, .inl (cI, 40, .inl (nF z0))), (ac, .inl (cI, 40, .inl (nF z0)))] := hD
    refine lv_aload_n hx hb dM_join_54 rfl (lv_at hl 1 rfl) ?_
    refine va_get (D := D) (ci := 3) (v := .ref aZ) (C := RM) (T := TM) (N := 12) hx hb hts iM_join_M hown hK hP 0 rfl rfl 6 (by decide) (hts (.fieldLink RM 23 "TreeDeskModel" "bad" "[Z") (by decide +kernel)) (fun _ h9 => h9) rfl dM_join_55 ?_
    refine lv_iload hx hb dM_join_58 (lv_at hl 0 rfl) ?_
    refine lv_iconst (v := nI 0) hx hb dM_join_60 (by decide) ?_
    refine ar_zst (j := 0) (x' := nI 0) hx hb hK hP hD hS 5 2 rfl rfl dM_join_61 (by omega) (by omega) rfl (fun H locs hP hD hS => ?_)
    have hP : va_P D vwCl [(o, .inr (3, [.int (nI mo), .int 0, .ref aP, .ref aH, .ref aT, .ref aB, .ref aZ, .ref aS, .ref aa, .ref ab, .ref ac, .ref aR])), (aP, .inl (cI, 300, .inl (pF z0))), (aH, .inl (cI, 300, .inl (nF z0))), (aT, .inl (cJ, 300, .inr (.inl (vp_updL (fun _ => 0) 0 t)))), (aB, .inl (cJ, 300, .inr (.inl (vp_updL (fun _ => 0) 0 (lN 545259519))))), (aZ, .inl (cZ, 300, .inl (upd (nF z0) 0 (nI 0)))), (aS, .inl (cI, 12000, .inl (nF z0))), (aa, .inl (cI, 40, .inl (nF z0))), (ab, .inl (cI, 40, .inl (nF z0))), (ac, .inl (cI, 40, .inl (nF z0)))] H := hP
    have hD : va_D A [(o, .inr (3, [.int (nI mo), .int 0, .ref aP, .ref aH, .ref aT, .ref aB, .ref aZ, .ref aS, .ref aa, .ref ab, .ref ac, .ref aR])), (aP, .inl (cI, 300, .inl (pF z0))), (aH, .inl (cI, 300, .inl (nF z0))), (aT, .inl (cJ, 300, .inr (.inl (vp_updL (fun _ => 0) 0 t)))), (aB, .inl (cJ, 300, .inr (.inl (vp_updL (fun _ => 0) 0 (lN 545259519))))), (aZ, .inl (cZ, 300, .inl (upd (nF z0) 0 (nI 0)))), (aS, .inl (cI, 12000, .inl (nF z0))), (aa, .inl (cI, 40, .inl (nF z0))), (ab, .inl (cI, 40, .inl (nF z0))), (ac, .inl (cI, 40, .inl (nF z0)))] := hD
    have e_w61 : upd (nF z0) 0 (nI 0) = nF z0 := nF_zz
    rw [e_w61] at hP hD
    refine lv_aload_n hx hb dM_join_62 rfl (lv_at hl 1 rfl) ?_
    refine lv_dup hx hb dM_join_63 rfl ?_
    refine va_get (D := D) (ci := 3) (v := .int 0) (C := RM) (T := TM) (N := 12) hx hb hts iM_join_M hown hK hP 0 rfl rfl 1 (by decide) (hts (.fieldLink RM 54 "TreeDeskModel" "many" "I") (by decide +kernel)) (fun _ h9 => h9) rfl dM_join_64 ?_
    refine tp_i (y := nI 0) nI_0.symm ?_
    refine lv_iconst (v := nI 1) hx hb dM_join_67 (by decide) ?_
    refine lv_iadd hx hb dM_join_68 ?_
    refine tp_i (y := nI (0 + 1)) (nI_add _ _) ?_
    refine va_put (D := D) (ci := 3) (v := .int (nI (0 + 1))) (ty := .int) (C := RM) (T := TM) (N := 12) hx hb hts iM_join_M tyM tyM_ok nmM hown hK hP hD hS 0 rfl rfl 1 (by decide) (hts (.fieldLink RM 54 "TreeDeskModel" "many" "I") (by decide +kernel)) (fun _ h9 => h9) rfl (by decide +kernel) rfl rfl (Nat.le_of_ble_eq_true rfl) dM_join_69 (fun H locs hP hD hS => ?_)
    have hP : va_P D vwCl [(o, .inr (3, [.int (nI mo), .int (nI (0 + 1)), .ref aP, .ref aH, .ref aT, .ref aB, .ref aZ, .ref aS, .ref aa, .ref ab, .ref ac, .ref aR])), (aP, .inl (cI, 300, .inl (pF z0))), (aH, .inl (cI, 300, .inl (nF z0))), (aT, .inl (cJ, 300, .inr (.inl (vp_updL (fun _ => 0) 0 t)))), (aB, .inl (cJ, 300, .inr (.inl (vp_updL (fun _ => 0) 0 (lN 545259519))))), (aZ, .inl (cZ, 300, .inl (nF z0))), (aS, .inl (cI, 12000, .inl (nF z0))), (aa, .inl (cI, 40, .inl (nF z0))), (ab, .inl (cI, 40, .inl (nF z0))), (ac, .inl (cI, 40, .inl (nF z0)))] H := hP
    have hD : va_D A [(o, .inr (3, [.int (nI mo), .int (nI (0 + 1)), .ref aP, .ref aH, .ref aT, .ref aB, .ref aZ, .ref aS, .ref aa, .ref ab, .ref ac, .ref aR])), (aP, .inl (cI, 300, .inl (pF z0))), (aH, .inl (cI, 300, .inl (nF z0))), (aT, .inl (cJ, 300, .inr (.inl (vp_updL (fun _ => 0) 0 t)))), (aB, .inl (cJ, 300, .inr (.inl (vp_updL (fun _ => 0) 0 (lN 545259519))))), (aZ, .inl (cZ, 300, .inl (nF z0))), (aS, .inl (cI, 12000, .inl (nF z0))), (aa, .inl (cI, 40, .inl (nF z0))), (ab, .inl (cI, 40, .inl (nF z0))), (ac, .inl (cI, 40, .inl (nF z0)))] := hD
    refine lv_lload hx hb dM_join_72 (lv_at hl 4 rfl) ?_
    refine lv_aload_n hx hb dM_join_74 rfl (lv_at hl 1 rfl) ?_
    refine va_get (D := D) (ci := 3) (v := .ref aa) (C := RM) (T := TM) (N := 12) hx hb hts iM_join_M hown hK hP 0 rfl rfl 8 (by decide) (hts (.fieldLink RM 30 "TreeDeskModel" "a" "[I") (by decide +kernel)) (fun _ h9 => h9) rfl dM_join_75 ?_
    refine rw_k (wc := [(aa, .inl (cI, 40, .inl (nF z0)))]) (wr := [(o, .inr (3, [.int (nI mo), .int (nI (0 + 1)), .ref aP, .ref aH, .ref aT, .ref aB, .ref aZ, .ref aS, .ref aa, .ref ab, .ref ac, .ref aR])), (aP, .inl (cI, 300, .inl (pF z0))), (aH, .inl (cI, 300, .inl (nF z0))), (aT, .inl (cJ, 300, .inr (.inl (vp_updL (fun _ => 0) 0 t)))), (aB, .inl (cJ, 300, .inr (.inl (vp_updL (fun _ => 0) 0 (lN 545259519))))), (aZ, .inl (cZ, 300, .inl (nF z0))), (aS, .inl (cI, 12000, .inl (nF z0))), (ab, .inl (cI, 40, .inl (nF z0))), (ac, .inl (cI, 40, .inl (nF z0)))]) (va_runS (As := [.long (lN 545259519), .ref aa]) (rest := []) ⟨hx, hb, hml, hown, hts⟩ (k_open l D cI cJ cZ aa z0 545259519 (by omega) H.size) (va_cwS 2 hts gM_join_M_open_57 rfl rfl rfl (by decide +kernel) ⟨Nat.le_of_ble_eq_true rfl, Nat.le_of_ble_eq_true rfl⟩) (rw_preS (hP.sub [7] rfl) hK (hD.sub [7] (by decide) rfl)) rfl rfl hl.1 rfl (lv_room (Nat.le_of_ble_eq_true rfl)) dM_join_78 ⟨Nat.le_of_ble_eq_true rfl, Nat.le_of_ble_eq_true rfl⟩) hP hD hS hA [7] [0, 1, 2, 3, 4, 5, 6, 8, 9] rfl rfl (by decide) (by decide) (fun v9 w9 H locs hp9 hP hD hS => ?_)
    obtain ⟨rfl, rfl⟩ := hp9
    have hP : va_P D vwCl [(o, .inr (3, [.int (nI mo), .int (nI (0 + 1)), .ref aP, .ref aH, .ref aT, .ref aB, .ref aZ, .ref aS, .ref aa, .ref ab, .ref ac, .ref aR])), (aP, .inl (cI, 300, .inl (pF z0))), (aH, .inl (cI, 300, .inl (nF z0))), (aT, .inl (cJ, 300, .inr (.inl (vp_updL (fun _ => 0) 0 t)))), (aB, .inl (cJ, 300, .inr (.inl (vp_updL (fun _ => 0) 0 (lN 545259519))))), (aZ, .inl (cZ, 300, .inl (nF z0))), (aS, .inl (cI, 12000, .inl (nF z0))), (ab, .inl (cI, 40, .inl (nF z0))), (ac, .inl (cI, 40, .inl (nF z0))), (aa, .inl (cI, 40, .inl (nF (r_open 545259519 z0))))] H := hP
    have hD : va_D A [(o, .inr (3, [.int (nI mo), .int (nI (0 + 1)), .ref aP, .ref aH, .ref aT, .ref aB, .ref aZ, .ref aS, .ref aa, .ref ab, .ref ac, .ref aR])), (aP, .inl (cI, 300, .inl (pF z0))), (aH, .inl (cI, 300, .inl (nF z0))), (aT, .inl (cJ, 300, .inr (.inl (vp_updL (fun _ => 0) 0 t)))), (aB, .inl (cJ, 300, .inr (.inl (vp_updL (fun _ => 0) 0 (lN 545259519))))), (aZ, .inl (cZ, 300, .inl (nF z0))), (aS, .inl (cI, 12000, .inl (nF z0))), (ab, .inl (cI, 40, .inl (nF z0))), (ac, .inl (cI, 40, .inl (nF z0))), (aa, .inl (cI, 40, .inl (nF (r_open 545259519 z0))))] := hD
    refine W.eq (g2 := F0 m 81 ls []) rfl ?_
    refine lv_aload_n hx hb dM_join_81 rfl (lv_at hl 1 rfl) ?_
    refine rw_k (wc := [(o, .inr (3, [.int (nI mo), .int (nI (0 + 1)), .ref aP, .ref aH, .ref aT, .ref aB, .ref aZ, .ref aS, .ref aa, .ref ab, .ref ac, .ref aR])), (aa, .inl (cI, 40, .inl (nF (r_open 545259519 z0)))), (ab, .inl (cI, 40, .inl (nF z0))), (ac, .inl (cI, 40, .inl (nF z0)))]) (wr := [(aP, .inl (cI, 300, .inl (pF z0))), (aH, .inl (cI, 300, .inl (nF z0))), (aT, .inl (cJ, 300, .inr (.inl (vp_updL (fun _ => 0) 0 t)))), (aB, .inl (cJ, 300, .inr (.inl (vp_updL (fun _ => 0) 0 (lN 545259519))))), (aZ, .inl (cZ, 300, .inl (nF z0))), (aS, .inl (cI, 12000, .inl (nF z0)))]) (va_runV (As := []) (rest := []) ⟨hx, hb, hml, hown, hts⟩ (k_quotient l D cI cJ cZ o mo (0 + 1) aP aH aT aB aZ aS aa ab ac aR (r_open 545259519 z0) z0 z0 (r_open_by by8_z0) by8_z0 by8_z0 H.size) (cwV 0 hts gM_join_M_quotient_61 rfl rfl rfl (by decide +kernel) ⟨Nat.le_of_ble_eq_true rfl, Nat.le_of_ble_eq_true rfl⟩) (rw_preV (hP.sub [0, 9, 7, 8] rfl) hK (hD.sub [0, 9, 7, 8] (by decide) rfl) (va_recv hK hP (ci := 3) (q0 := 0) rfl rfl)) rfl rfl hl.1 rfl (lv_room (Nat.le_of_ble_eq_true rfl)) dM_join_82 ⟨Nat.le_of_ble_eq_true rfl, Nat.le_of_ble_eq_true rfl⟩) hP hD hS hA [0, 9, 7, 8] [1, 2, 3, 4, 5, 6] rfl rfl (by decide) (by decide) (fun v9 w9 H locs hp9 hP hD hS => ?_)
    obtain ⟨rfl, rfl⟩ := hp9
    have hP : va_P D vwCl [(aP, .inl (cI, 300, .inl (pF z0))), (aH, .inl (cI, 300, .inl (nF z0))), (aT, .inl (cJ, 300, .inr (.inl (vp_updL (fun _ => 0) 0 t)))), (aB, .inl (cJ, 300, .inr (.inl (vp_updL (fun _ => 0) 0 (lN 545259519))))), (aZ, .inl (cZ, 300, .inl (nF z0))), (aS, .inl (cI, 12000, .inl (nF z0))), (o, .inr (3, [.int (nI mo), .int (nI (0 + 1)), .ref aP, .ref aH, .ref aT, .ref aB, .ref aZ, .ref aS, .ref aa, .ref ab, .ref ac, .ref aR])), (aa, .inl (cI, 40, .inl (nF ((r_quo (r_open 545259519 z0) z0 z0).1)))), (ab, .inl (cI, 40, .inl (nF (r_inc (r_open 545259519 z0) z0)))), (ac, .inl (cI, 40, .inl (nF ((r_quo (r_open 545259519 z0) z0 z0).2))))] H := hP
    have hD : va_D A [(aP, .inl (cI, 300, .inl (pF z0))), (aH, .inl (cI, 300, .inl (nF z0))), (aT, .inl (cJ, 300, .inr (.inl (vp_updL (fun _ => 0) 0 t)))), (aB, .inl (cJ, 300, .inr (.inl (vp_updL (fun _ => 0) 0 (lN 545259519))))), (aZ, .inl (cZ, 300, .inl (nF z0))), (aS, .inl (cI, 12000, .inl (nF z0))), (o, .inr (3, [.int (nI mo), .int (nI (0 + 1)), .ref aP, .ref aH, .ref aT, .ref aB, .ref aZ, .ref aS, .ref aa, .ref ab, .ref ac, .ref aR])), (aa, .inl (cI, 40, .inl (nF ((r_quo (r_open 545259519 z0) z0 z0).1)))), (ab, .inl (cI, 40, .inl (nF (r_inc (r_open 545259519 z0) z0)))), (ac, .inl (cI, 40, .inl (nF ((r_quo (r_open 545259519 z0) z0 z0).2))))] := hD
    refine W.eq (g2 := F0 m 85 ls []) rfl ?_
    refine lv_iconst (v := nI 0) hx hb dM_join_85 (by decide) ?_
    refine lv_istore (lv' := [(7, .int (nI 0)), (6, .int (nI 0)), (0, .ref o), (1, .int (-1)), (2, .long t), (4, .long (lN 545259519))]) hx hb dM_join_86 hl (by decide) rfl (fun ls hl => ?_)
    refine lv_iconst (v := nI 0) hx hb dM_join_88 (by decide) ?_
    refine lv_istore (lv' := [(8, .int (nI 0)), (7, .int (nI 0)), (6, .int (nI 0)), (0, .ref o), (1, .int (-1)), (2, .long t), (4, .long (lN 545259519))]) hx hb dM_join_89 hl (by decide) rfl (fun ls hl => ?_)
    have lp_91 : ∀ (n_91 : Nat) (d i cy : Nat) (S9 : Nat → Nat), (d < n_91) → (i + d = 40) → (cy < 100000) → (r_cpyL (r_quo (r_open 545259519 z0) z0 z0).1 d i cy S9 = r_cpyL (r_quo (r_open 545259519 z0) z0 z0).1 40 0 0 z0) → ∀ (H : Heap) (locs : List Loc), va_P D vwCl [(o, .inr (3, [.int (nI mo), .int (nI (0 + 1)), .ref aP, .ref aH, .ref aT, .ref aB, .ref aZ, .ref aS, .ref aa, .ref ab, .ref ac, .ref aR])), (aP, .inl (cI, 300, .inl (pF z0))), (aH, .inl (cI, 300, .inl (nF z0))), (aT, .inl (cJ, 300, .inr (.inl (vp_updL (fun _ => 0) 0 t)))), (aB, .inl (cJ, 300, .inr (.inl (vp_updL (fun _ => 0) 0 (lN 545259519))))), (aZ, .inl (cZ, 300, .inl (nF z0))), (aS, .inl (cI, 12000, .inl (nF S9))), (aa, .inl (cI, 40, .inl (nF ((r_quo (r_open 545259519 z0) z0 z0).1)))), (ab, .inl (cI, 40, .inl (nF (r_inc (r_open 545259519 z0) z0)))), (ac, .inl (cI, 40, .inl (nF ((r_quo (r_open 545259519 z0) z0 z0).2))))] H → va_D A [(o, .inr (3, [.int (nI mo), .int (nI (0 + 1)), .ref aP, .ref aH, .ref aT, .ref aB, .ref aZ, .ref aS, .ref aa, .ref ab, .ref ac, .ref aR])), (aP, .inl (cI, 300, .inl (pF z0))), (aH, .inl (cI, 300, .inl (nF z0))), (aT, .inl (cJ, 300, .inr (.inl (vp_updL (fun _ => 0) 0 t)))), (aB, .inl (cJ, 300, .inr (.inl (vp_updL (fun _ => 0) 0 (lN 545259519))))), (aZ, .inl (cZ, 300, .inl (nF z0))), (aS, .inl (cI, 12000, .inl (nF S9))), (aa, .inl (cI, 40, .inl (nF ((r_quo (r_open 545259519 z0) z0 z0).1)))), (ab, .inl (cI, 40, .inl (nF (r_inc (r_open 545259519 z0) z0)))), (ac, .inl (cI, 40, .inl (nF ((r_quo (r_open 545259519 z0) z0 z0).2))))] → va_S A s.heap H locs → ∀ (ls : Array Slot), lv_has ls 10 [(0, .ref o), (1, .int (-1)), (6, .int (nI 0)), (7, .int (nI cy)), (8, .int (nI i))] → W p l e rm_k_join_root s m args below meth c H locs 0 0 Q (F0 m 91 ls []) := by
      intro n_91
      induction n_91 with
      | zero => intro d i cy S9 hn hd hcy hg H locs hP hD hS ls hl; exact absurd hn (by omega)
      | succ n_91 ih_91 =>
        intro d i cy S9 hn hd hcy hg H locs hP hD hS ls hl
        refine lv_iload hx hb dM_join_91 (lv_at hl 4 rfl) ?_
        refine lv_bipush (v := nI 40) hx hb dM_join_93 (by decide) ?_
        refine lv_icmp_ge (tgt := 164) hx hb dM_join_95 (by decide) (fun c_95 => ?_) (fun c_95 => ?_)
        · skip
          have c_95 : 40 ≤ i := n_le c_95 (by omega) (by omega)
          have hd0 : d = 0 := by omega
          subst hd0
          exact rw_vret (w := [(o, .inr (3, [.int (nI mo), .int (nI (0 + 1)), .ref aP, .ref aH, .ref aT, .ref aB, .ref aZ, .ref aS, .ref aa, .ref ab, .ref ac, .ref aR])), (aP, .inl (cI, 300, .inl (pF z0))), (aH, .inl (cI, 300, .inl (nF z0))), (aT, .inl (cJ, 300, .inr (.inl (vp_updL (fun _ => 0) 0 t)))), (aB, .inl (cJ, 300, .inr (.inl (vp_updL (fun _ => 0) 0 (lN 545259519))))), (aZ, .inl (cZ, 300, .inl (nF z0))), (aS, .inl (cI, 12000, .inl (nF S9))), (aa, .inl (cI, 40, .inl (nF ((r_quo (r_open 545259519 z0) z0 z0).1)))), (ab, .inl (cI, 40, .inl (nF (r_inc (r_open 545259519 z0) z0)))), (ac, .inl (cI, 40, .inl (nF ((r_quo (r_open 545259519 z0) z0 z0).2))))]) hQ hx hb hr hlocks dM_join_164 (hP.sub [0, 1, 2, 3, 4, 5, 6, 7, 8, 9] rfl) (hD.sub [0, 1, 2, 3, 4, 5, 6, 7, 8, 9] (by decide) rfl) hS ⟨rfl, by rw [show r_cpyL (r_quo (r_open 545259519 z0) z0 z0).1 40 0 0 z0 = S9 from hg.symm]⟩
        · skip
          have c_95 : i < 40 := n_nle c_95 (by omega) (by omega)
          obtain ⟨d, rfl⟩ : ∃ d' : Nat, d = d' + 1 := ⟨d - 1, by omega⟩
          have hqa := r_quo_bd (α := r_open 545259519 z0) (β := z0) (γ := z0) (r_open_by by8_z0) i
          refine lv_aload_n hx hb dM_join_98 rfl (lv_at hl 0 rfl) ?_
          refine va_get (D := D) (ci := 3) (v := .ref aa) (C := RM) (T := TM) (N := 12) hx hb hts iM_join_M hown hK hP 0 rfl rfl 8 (by decide) (hts (.fieldLink RM 30 "TreeDeskModel" "a" "[I") (by decide +kernel)) (fun _ h9 => h9) rfl dM_join_99 ?_
          refine lv_iload hx hb dM_join_102 (lv_at hl 4 rfl) ?_
          refine ar_ild (j := i) hx hb hK hP 7 0 rfl rfl dM_join_104 (by omega) (by omega) ?_
          refine tp_i (y := nI ((r_quo (r_open 545259519 z0) z0 z0).1 i)) rfl ?_
          refine lv_iload_n hx hb dM_join_105 rfl (lv_at hl 1 rfl) ?_
          refine lv_if_ge (tgt := 113) hx hb dM_join_106 (by decide) (fun c_106 => ?_) (fun c_106 => ?_)
          · skip
            exact absurd c_106 (by decide)
          · skip
            refine lv_iconst (v := nI 0) hx hb dM_join_109 (by decide) ?_
            refine lv_goto (tgt := 125) hx hb dM_join_110 (by decide) ?_
            refine lv_iadd hx hb dM_join_125 ?_
            refine tp_i (y := nI (((r_quo (r_open 545259519 z0) z0 z0).1 i) + 0)) (nI_add _ _) ?_
            refine lv_iload hx hb dM_join_126 (lv_at hl 3 rfl) ?_
            refine lv_iadd hx hb dM_join_128 ?_
            refine tp_i (y := nI ((((r_quo (r_open 545259519 z0) z0 z0).1 i) + 0) + cy)) (nI_add _ _) ?_
            refine lv_istore (lv' := [(9, .int (nI ((((r_quo (r_open 545259519 z0) z0 z0).1 i) + 0) + cy))), (0, .ref o), (1, .int (-1)), (6, .int (nI 0)), (7, .int (nI cy)), (8, .int (nI i))]) hx hb dM_join_129 hl (by decide) rfl (fun ls hl => ?_)
            refine lv_aload_n hx hb dM_join_131 rfl (lv_at hl 1 rfl) ?_
            refine va_get (D := D) (ci := 3) (v := .ref aS) (C := RM) (T := TM) (N := 12) hx hb hts iM_join_M hown hK hP 0 rfl rfl 7 (by decide) (hts (.fieldLink RM 27 "TreeDeskModel" "sums" "[I") (by decide +kernel)) (fun _ h9 => h9) rfl dM_join_132 ?_
            refine lv_bipush (v := nI 40) hx hb dM_join_135 (by decide) ?_
            refine lv_iload hx hb dM_join_137 (lv_at hl 3 rfl) ?_
            refine lv_imul hx hb dM_join_139 ?_
            refine tp_i (y := nI (40 * 0)) (pk_mul _ _) ?_
            refine lv_iload hx hb dM_join_140 (lv_at hl 5 rfl) ?_
            refine lv_iadd hx hb dM_join_142 ?_
            refine tp_i (y := nI ((40 * 0) + i)) (nI_add _ _) ?_
            refine lv_iload hx hb dM_join_143 (lv_at hl 0 rfl) ?_
            refine lv_sipush (v := nI 256) hx hb dM_join_145 (by decide) ?_
            refine lv_irem hx hb dM_join_148 (nI_ne0 (by omega) (by omega)) ?_
            refine tp_i (y := nI (((((r_quo (r_open 545259519 z0) z0 z0).1 i) + 0) + cy) % 256)) (pk_rem (by omega) (by omega) (by omega)) ?_
            refine ar_ist (j := (40 * 0) + i) hx hb hK hP hD hS 6 0 rfl rfl dM_join_149 (by omega) (by omega) (fun H locs hP hD hS => ?_)
            have hP : va_P D vwCl [(o, .inr (3, [.int (nI mo), .int (nI (0 + 1)), .ref aP, .ref aH, .ref aT, .ref aB, .ref aZ, .ref aS, .ref aa, .ref ab, .ref ac, .ref aR])), (aP, .inl (cI, 300, .inl (pF z0))), (aH, .inl (cI, 300, .inl (nF z0))), (aT, .inl (cJ, 300, .inr (.inl (vp_updL (fun _ => 0) 0 t)))), (aB, .inl (cJ, 300, .inr (.inl (vp_updL (fun _ => 0) 0 (lN 545259519))))), (aZ, .inl (cZ, 300, .inl (nF z0))), (aS, .inl (cI, 12000, .inl (upd (nF S9) ((40 * 0) + i) (nI (((((r_quo (r_open 545259519 z0) z0 z0).1 i) + 0) + cy) % 256))))), (aa, .inl (cI, 40, .inl (nF ((r_quo (r_open 545259519 z0) z0 z0).1)))), (ab, .inl (cI, 40, .inl (nF (r_inc (r_open 545259519 z0) z0)))), (ac, .inl (cI, 40, .inl (nF ((r_quo (r_open 545259519 z0) z0 z0).2))))] H := hP
            have hD : va_D A [(o, .inr (3, [.int (nI mo), .int (nI (0 + 1)), .ref aP, .ref aH, .ref aT, .ref aB, .ref aZ, .ref aS, .ref aa, .ref ab, .ref ac, .ref aR])), (aP, .inl (cI, 300, .inl (pF z0))), (aH, .inl (cI, 300, .inl (nF z0))), (aT, .inl (cJ, 300, .inr (.inl (vp_updL (fun _ => 0) 0 t)))), (aB, .inl (cJ, 300, .inr (.inl (vp_updL (fun _ => 0) 0 (lN 545259519))))), (aZ, .inl (cZ, 300, .inl (nF z0))), (aS, .inl (cI, 12000, .inl (upd (nF S9) ((40 * 0) + i) (nI (((((r_quo (r_open 545259519 z0) z0 z0).1 i) + 0) + cy) % 256))))), (aa, .inl (cI, 40, .inl (nF ((r_quo (r_open 545259519 z0) z0 z0).1)))), (ab, .inl (cI, 40, .inl (nF (r_inc (r_open 545259519 z0) z0)))), (ac, .inl (cI, 40, .inl (nF ((r_quo (r_open 545259519 z0) z0 z0).2))))] := hD
            have e_w149 : upd (nF S9) ((40 * 0) + i) (nI (((((r_quo (r_open 545259519 z0) z0 z0).1 i) + 0) + cy) % 256)) = nF (updN S9 (40 * 0 + i) (((r_quo (r_open 545259519 z0) z0 z0).1 i + 0 + cy) % 256)) := nF_u S9 _ _
            rw [e_w149] at hP hD
            refine lv_iload hx hb dM_join_150 (lv_at hl 0 rfl) ?_
            refine lv_sipush (v := nI 256) hx hb dM_join_152 (by decide) ?_
            refine lv_idiv hx hb dM_join_155 (nI_ne0 (by omega) (by omega)) ?_
            refine tp_i (y := nI (((((r_quo (r_open 545259519 z0) z0 z0).1 i) + 0) + cy) / 256)) (pk_div (by omega) (by omega) (by omega)) ?_
            refine lv_istore (lv' := [(7, .int (nI (((((r_quo (r_open 545259519 z0) z0 z0).1 i) + 0) + cy) / 256))), (9, .int (nI ((((r_quo (r_open 545259519 z0) z0 z0).1 i) + 0) + cy))), (0, .ref o), (1, .int (-1)), (6, .int (nI 0)), (8, .int (nI i))]) hx hb dM_join_156 hl (by decide) rfl (fun ls hl => ?_)
            refine lv_iinc (v := nI (i + 1)) (lv' := [(8, .int (nI (i + 1))), (7, .int (nI (((((r_quo (r_open 545259519 z0) z0 z0).1 i) + 0) + cy) / 256))), (9, .int (nI ((((r_quo (r_open 545259519 z0) z0 z0).1 i) + 0) + cy))), (0, .ref o), (1, .int (-1)), (6, .int (nI 0))]) hx hb dM_join_158 hl (k := 5) rfl (nI_add _ 1) (by decide) rfl (fun ls hl => ?_)
            refine lv_goto (tgt := 91) hx hb dM_join_161 (by decide) ?_
            exact ih_91 d (i + 1) (((r_quo (r_open 545259519 z0) z0 z0).1 i + 0 + cy) / 256) (updN S9 (40 * 0 + i) (((r_quo (r_open 545259519 z0) z0 z0).1 i + 0 + cy) % 256)) (by omega) (by omega) (by omega) hg _ _ (hP.sub [0, 1, 2, 3, 4, 5, 6, 7, 8, 9] rfl) (hD.sub [0, 1, 2, 3, 4, 5, 6, 7, 8, 9] (by decide) rfl) hS ls (lv_sub hl [3, 4, 5, 1, 0] rfl)
    exact lp_91 41 40 0 0 z0 (by omega) (by omega) (by omega) rfl _ _ (hP.sub [6, 0, 1, 2, 3, 4, 5, 7, 8, 9] rfl) (hD.sub [6, 0, 1, 2, 3, 4, 5, 7, 8, 9] (by decide) rfl) hS ls (lv_sub hl [3, 4, 2, 1, 0] rfl)

abbrev rm_k_add_nob : Room := { frames := 3, cells := 0, slots := 0, locals := 78 }
set_option maxRecDepth 100000 in
set_option maxHeartbeats 4000000 in
theorem k_add_nob (l : Launch) (D : va_G) (cI cJ cZ : ClassId) (o : Nat) (mo : Nat) (n : Nat) (aP : Nat) (aH : Nat) (aT : Nat) (aB : Nat) (aZ : Nat) (aS : Nat) (aa : Nat) (ab : Nat) (ac : Nat) (aR : Nat) (x : Int32) (t : Int64) (b : Int64) (hx9 : ¬ (0 ≤ x ∧ x < nI n)) : ro_C l yM_add wM_add rm_k_add_nob D vwCl (gT cI cJ cZ) [.ref o, .int x, .long t, .long b] [(o, .inr (3, [.int (nI mo), .int (nI n), .ref aP, .ref aH, .ref aT, .ref aB, .ref aZ, .ref aS, .ref aa, .ref ab, .ref ac, .ref aR]))] (some (.int (-1))) := by
  refine ro_of (cc := cM_add) (maxL := 6) (ret := some .int) (by decide) rfl (Nat.le_of_ble_eq_true rfl) ?_
  intro p e s m args below meth c Q ls hx hb hr hml hown hts hlocks hK hP hl hQ
  have hl : lv_has ls 6 [(0, .ref o), (1, .int x), (2, .long t), (4, .long b)] := hl
  have hown : s.vm.findClass RM = some m.cls := hown
  refine lv_aload_n hx hb dM_add_0 rfl (lv_at hl 0 rfl) ?_
  refine lv_iload_n hx hb dM_add_1 rfl (lv_at hl 1 rfl) ?_
  refine ro_ki (va_runV (As := [.int x]) (rest := []) ⟨hx, hb, hml, hown, hts⟩ (k_isBlock_no l D cI cJ cZ o mo n aP aH aT aB aZ aS aa ab ac aR x hx9) (cwV 1 hts gM_add_M_isBlock_102 rfl rfl rfl (by decide +kernel) ⟨Nat.le_of_ble_eq_true rfl, Nat.le_of_ble_eq_true rfl⟩) (ro_preV (hP.sub [0] rfl) hK (va_recv hK hP (ci := 3) (q0 := 0) rfl rfl)) rfl rfl hl.1 rfl (lv_room (Nat.le_of_ble_eq_true rfl)) dM_add_2 ⟨Nat.le_of_ble_eq_true rfl, Nat.le_of_ble_eq_true rfl⟩) ?_
  refine lv_if_ne (tgt := 10) hx hb dM_add_5 (by decide) (fun c_5 => ?_) (fun c_5 => ?_)
  · skip
    rw [← nI_0] at c_5
    have c_5 : ¬ 0 = 0 := n_ne c_5
    omega
  · skip
    rw [← nI_0] at c_5
    have c_5 : 0 = 0 := n_eq c_5 (by omega) (by omega)
    refine lv_iconst (v := (-1)) hx hb dM_add_8 (by decide) ?_
    exact ro_iret hQ hx hb hr hlocks dM_add_9 rfl

abbrev rm_k_add_bad : Room := { frames := 3, cells := 0, slots := 0, locals := 78 }
set_option maxRecDepth 100000 in
set_option maxHeartbeats 4000000 in
theorem k_add_bad (l : Launch) (D : va_G) (cI cJ cZ : ClassId) (o : Nat) (mo : Nat) (n : Nat) (aP : Nat) (aH : Nat) (aT : Nat) (aB : Nat) (aZ : Nat) (aS : Nat) (aa : Nat) (ab : Nat) (ac : Nat) (aR : Nat) (Zb : Nat → Nat) (j : Nat) (t : Int64) (b : Int64) (hn3 : n ≤ 300) (hj : j < n) (hz1 : ¬ Zb j = 0) (hz2 : Zb j < 2) : ro_C l yM_add wM_add rm_k_add_bad D vwCl (gT cI cJ cZ) [.ref o, .int (nI j), .long t, .long b] [(o, .inr (3, [.int (nI mo), .int (nI n), .ref aP, .ref aH, .ref aT, .ref aB, .ref aZ, .ref aS, .ref aa, .ref ab, .ref ac, .ref aR])), (aZ, .inl (cZ, 300, .inl (nF Zb)))] (some (.int (-2))) := by
  refine ro_of (cc := cM_add) (maxL := 6) (ret := some .int) (by decide) rfl (Nat.le_of_ble_eq_true rfl) ?_
  intro p e s m args below meth c Q ls hx hb hr hml hown hts hlocks hK hP hl hQ
  have hl : lv_has ls 6 [(0, .ref o), (1, .int (nI j)), (2, .long t), (4, .long b)] := hl
  have hown : s.vm.findClass RM = some m.cls := hown
  refine lv_aload_n hx hb dM_add_0 rfl (lv_at hl 0 rfl) ?_
  refine lv_iload_n hx hb dM_add_1 rfl (lv_at hl 1 rfl) ?_
  refine ro_ki (va_runV (As := [.int (nI j)]) (rest := []) ⟨hx, hb, hml, hown, hts⟩ (k_isBlock_ok l D cI cJ cZ o mo n aP aH aT aB aZ aS aa ab ac aR j (by omega) (by omega)) (cwV 1 hts gM_add_M_isBlock_102 rfl rfl rfl (by decide +kernel) ⟨Nat.le_of_ble_eq_true rfl, Nat.le_of_ble_eq_true rfl⟩) (ro_preV (hP.sub [0] rfl) hK (va_recv hK hP (ci := 3) (q0 := 0) rfl rfl)) rfl rfl hl.1 rfl (lv_room (Nat.le_of_ble_eq_true rfl)) dM_add_2 ⟨Nat.le_of_ble_eq_true rfl, Nat.le_of_ble_eq_true rfl⟩) ?_
  refine lv_if_ne (tgt := 10) hx hb dM_add_5 (by decide) (fun c_5 => ?_) (fun c_5 => ?_)
  · skip
    rw [← nI_0] at c_5
    have c_5 : ¬ 1 = 0 := n_ne c_5
    refine lv_aload_n hx hb dM_add_10 rfl (lv_at hl 0 rfl) ?_
    refine va_get (D := D) (ci := 3) (v := .ref aZ) (C := RM) (T := TM) (N := 12) hx hb hts iM_add_M hown hK hP 0 rfl rfl 6 (by decide) (hts (.fieldLink RM 23 "TreeDeskModel" "bad" "[Z") (by decide +kernel)) (fun _ h9 => h9) rfl dM_add_11 ?_
    refine lv_iload_n hx hb dM_add_14 rfl (lv_at hl 1 rfl) ?_
    refine ar_zld (j := j) hx hb hK hP 1 2 rfl rfl dM_add_15 (by omega) (by omega) ?_
    refine tp_i (y := nI (Zb j)) rfl ?_
    refine lv_if_eq (tgt := 22) hx hb dM_add_16 (by decide) (fun c_16 => ?_) (fun c_16 => ?_)
    · skip
      rw [← nI_0] at c_16
      have c_16 : (Zb j) = 0 := n_eq c_16 (by omega) (by omega)
      omega
    · skip
      rw [← nI_0] at c_16
      have c_16 : ¬ (Zb j) = 0 := n_ne c_16
      refine lv_bipush (v := (-2)) hx hb dM_add_19 (by decide) ?_
      exact ro_iret hQ hx hb hr hlocks dM_add_21 rfl
  · skip
    rw [← nI_0] at c_5
    have c_5 : 1 = 0 := n_eq c_5 (by omega) (by omega)
    omega

abbrev rm_k_add_bitsS : Room := { frames := 3, cells := 0, slots := 0, locals := 78 }
set_option maxRecDepth 100000 in
set_option maxHeartbeats 4000000 in
theorem k_add_bitsS (l : Launch) (D : va_G) (cI cJ cZ : ClassId) (o : Nat) (mo : Nat) (n : Nat) (aP : Nat) (aH : Nat) (aT : Nat) (aB : Nat) (aZ : Nat) (aS : Nat) (aa : Nat) (ab : Nat) (ac : Nat) (aR : Nat) (Hh : Nat → Nat) (Bt : Nat → Int64) (Zb : Nat → Nat) (j : Nat) (t : Int64) (b : Int64) (hn3 : n ≤ 300) (hj : j < n) (hHj : Hh j < 300) (hz0 : Zb j = 0) (h8 : ¬ (Hh j + 1) % 8 = 0) (hb9 : ¬ b = Bt j) : ro_C l yM_add wM_add rm_k_add_bitsS D vwCl (gT cI cJ cZ) [.ref o, .int (nI j), .long t, .long b] [(o, .inr (3, [.int (nI mo), .int (nI n), .ref aP, .ref aH, .ref aT, .ref aB, .ref aZ, .ref aS, .ref aa, .ref ab, .ref ac, .ref aR])), (aH, .inl (cI, 300, .inl (nF Hh))), (aB, .inl (cJ, 300, .inr (.inl Bt))), (aZ, .inl (cZ, 300, .inl (nF Zb)))] (some (.int (-3))) := by
  refine ro_of (cc := cM_add) (maxL := 6) (ret := some .int) (by decide) rfl (Nat.le_of_ble_eq_true rfl) ?_
  intro p e s m args below meth c Q ls hx hb hr hml hown hts hlocks hK hP hl hQ
  have hl : lv_has ls 6 [(0, .ref o), (1, .int (nI j)), (2, .long t), (4, .long b)] := hl
  have hown : s.vm.findClass RM = some m.cls := hown
  refine lv_aload_n hx hb dM_add_0 rfl (lv_at hl 0 rfl) ?_
  refine lv_iload_n hx hb dM_add_1 rfl (lv_at hl 1 rfl) ?_
  refine ro_ki (va_runV (As := [.int (nI j)]) (rest := []) ⟨hx, hb, hml, hown, hts⟩ (k_isBlock_ok l D cI cJ cZ o mo n aP aH aT aB aZ aS aa ab ac aR j (by omega) (by omega)) (cwV 1 hts gM_add_M_isBlock_102 rfl rfl rfl (by decide +kernel) ⟨Nat.le_of_ble_eq_true rfl, Nat.le_of_ble_eq_true rfl⟩) (ro_preV (hP.sub [0] rfl) hK (va_recv hK hP (ci := 3) (q0 := 0) rfl rfl)) rfl rfl hl.1 rfl (lv_room (Nat.le_of_ble_eq_true rfl)) dM_add_2 ⟨Nat.le_of_ble_eq_true rfl, Nat.le_of_ble_eq_true rfl⟩) ?_
  refine lv_if_ne (tgt := 10) hx hb dM_add_5 (by decide) (fun c_5 => ?_) (fun c_5 => ?_)
  · skip
    rw [← nI_0] at c_5
    have c_5 : ¬ 1 = 0 := n_ne c_5
    refine lv_aload_n hx hb dM_add_10 rfl (lv_at hl 0 rfl) ?_
    refine va_get (D := D) (ci := 3) (v := .ref aZ) (C := RM) (T := TM) (N := 12) hx hb hts iM_add_M hown hK hP 0 rfl rfl 6 (by decide) (hts (.fieldLink RM 23 "TreeDeskModel" "bad" "[Z") (by decide +kernel)) (fun _ h9 => h9) rfl dM_add_11 ?_
    refine lv_iload_n hx hb dM_add_14 rfl (lv_at hl 1 rfl) ?_
    refine ar_zld (j := j) hx hb hK hP 3 2 rfl rfl dM_add_15 (by omega) (by omega) ?_
    refine tp_i (y := nI (Zb j)) rfl ?_
    refine lv_if_eq (tgt := 22) hx hb dM_add_16 (by decide) (fun c_16 => ?_) (fun c_16 => ?_)
    · skip
      rw [← nI_0] at c_16
      have c_16 : (Zb j) = 0 := n_eq c_16 (by omega) (by omega)
      refine lv_lload hx hb dM_add_22 (lv_at hl 3 rfl) ?_
      refine lv_aload_n hx hb dM_add_24 rfl (lv_at hl 0 rfl) ?_
      refine lv_iload_n hx hb dM_add_25 rfl (lv_at hl 1 rfl) ?_
      refine ro_kl (va_runV (As := [.int (nI j)]) (rest := [.long b]) ⟨hx, hb, hml, hown, hts⟩ (k_must_same l D cI cJ cZ o mo n aP aH aT aB aZ aS aa ab ac aR Hh Bt j (by omega) (by omega) (by omega) h8) (cwV 1 hts gM_add_M_must_122 rfl rfl rfl (by decide +kernel) ⟨Nat.le_of_ble_eq_true rfl, Nat.le_of_ble_eq_true rfl⟩) (ro_preV (hP.sub [0, 1, 2] rfl) hK (va_recv hK hP (ci := 3) (q0 := 0) rfl rfl)) rfl rfl hl.1 rfl (lv_room (Nat.le_of_ble_eq_true rfl)) dM_add_26 ⟨Nat.le_of_ble_eq_true rfl, Nat.le_of_ble_eq_true rfl⟩) ?_
      refine lc_eq (tgt := 36) hx hb dM_add_29 dM_add_30 (by decide) (fun c_30 => ?_) (fun c_30 => ?_)
      · skip
        exact absurd c_30 hb9
      · skip
        refine lv_bipush (v := (-3)) hx hb dM_add_33 (by decide) ?_
        exact ro_iret hQ hx hb hr hlocks dM_add_35 rfl
    · skip
      rw [← nI_0] at c_16
      have c_16 : ¬ (Zb j) = 0 := n_ne c_16
      omega
  · skip
    rw [← nI_0] at c_5
    have c_5 : 1 = 0 := n_eq c_5 (by omega) (by omega)
    omega

abbrev rm_k_add_lateS : Room := { frames := 3, cells := 0, slots := 0, locals := 78 }
set_option maxRecDepth 100000 in
set_option maxHeartbeats 4000000 in
theorem k_add_lateS (l : Launch) (D : va_G) (cI cJ cZ : ClassId) (o : Nat) (mo : Nat) (n : Nat) (aP : Nat) (aH : Nat) (aT : Nat) (aB : Nat) (aZ : Nat) (aS : Nat) (aa : Nat) (ab : Nat) (ac : Nat) (aR : Nat) (Hh : Nat → Nat) (Bt : Nat → Int64) (Zb : Nat → Nat) (j : Nat) (t : Int64) (b : Int64) (hn3 : n ≤ 300) (hj : j < n) (hHj : Hh j < 300) (hz0 : Zb j = 0) (h8 : ¬ (Hh j + 1) % 8 = 0) (hb9 : b = Bt j) (ht9 : 4294967295 < t) : ro_C l yM_add wM_add rm_k_add_lateS D vwCl (gT cI cJ cZ) [.ref o, .int (nI j), .long t, .long b] [(o, .inr (3, [.int (nI mo), .int (nI n), .ref aP, .ref aH, .ref aT, .ref aB, .ref aZ, .ref aS, .ref aa, .ref ab, .ref ac, .ref aR])), (aH, .inl (cI, 300, .inl (nF Hh))), (aB, .inl (cJ, 300, .inr (.inl Bt))), (aZ, .inl (cZ, 300, .inl (nF Zb)))] (some (.int (-4))) := by
  refine ro_of (cc := cM_add) (maxL := 6) (ret := some .int) (by decide) rfl (Nat.le_of_ble_eq_true rfl) ?_
  intro p e s m args below meth c Q ls hx hb hr hml hown hts hlocks hK hP hl hQ
  have hl : lv_has ls 6 [(0, .ref o), (1, .int (nI j)), (2, .long t), (4, .long b)] := hl
  have hown : s.vm.findClass RM = some m.cls := hown
  refine lv_aload_n hx hb dM_add_0 rfl (lv_at hl 0 rfl) ?_
  refine lv_iload_n hx hb dM_add_1 rfl (lv_at hl 1 rfl) ?_
  refine ro_ki (va_runV (As := [.int (nI j)]) (rest := []) ⟨hx, hb, hml, hown, hts⟩ (k_isBlock_ok l D cI cJ cZ o mo n aP aH aT aB aZ aS aa ab ac aR j (by omega) (by omega)) (cwV 1 hts gM_add_M_isBlock_102 rfl rfl rfl (by decide +kernel) ⟨Nat.le_of_ble_eq_true rfl, Nat.le_of_ble_eq_true rfl⟩) (ro_preV (hP.sub [0] rfl) hK (va_recv hK hP (ci := 3) (q0 := 0) rfl rfl)) rfl rfl hl.1 rfl (lv_room (Nat.le_of_ble_eq_true rfl)) dM_add_2 ⟨Nat.le_of_ble_eq_true rfl, Nat.le_of_ble_eq_true rfl⟩) ?_
  refine lv_if_ne (tgt := 10) hx hb dM_add_5 (by decide) (fun c_5 => ?_) (fun c_5 => ?_)
  · skip
    rw [← nI_0] at c_5
    have c_5 : ¬ 1 = 0 := n_ne c_5
    refine lv_aload_n hx hb dM_add_10 rfl (lv_at hl 0 rfl) ?_
    refine va_get (D := D) (ci := 3) (v := .ref aZ) (C := RM) (T := TM) (N := 12) hx hb hts iM_add_M hown hK hP 0 rfl rfl 6 (by decide) (hts (.fieldLink RM 23 "TreeDeskModel" "bad" "[Z") (by decide +kernel)) (fun _ h9 => h9) rfl dM_add_11 ?_
    refine lv_iload_n hx hb dM_add_14 rfl (lv_at hl 1 rfl) ?_
    refine ar_zld (j := j) hx hb hK hP 3 2 rfl rfl dM_add_15 (by omega) (by omega) ?_
    refine tp_i (y := nI (Zb j)) rfl ?_
    refine lv_if_eq (tgt := 22) hx hb dM_add_16 (by decide) (fun c_16 => ?_) (fun c_16 => ?_)
    · skip
      rw [← nI_0] at c_16
      have c_16 : (Zb j) = 0 := n_eq c_16 (by omega) (by omega)
      refine lv_lload hx hb dM_add_22 (lv_at hl 3 rfl) ?_
      refine lv_aload_n hx hb dM_add_24 rfl (lv_at hl 0 rfl) ?_
      refine lv_iload_n hx hb dM_add_25 rfl (lv_at hl 1 rfl) ?_
      refine ro_kl (va_runV (As := [.int (nI j)]) (rest := [.long b]) ⟨hx, hb, hml, hown, hts⟩ (k_must_same l D cI cJ cZ o mo n aP aH aT aB aZ aS aa ab ac aR Hh Bt j (by omega) (by omega) (by omega) h8) (cwV 1 hts gM_add_M_must_122 rfl rfl rfl (by decide +kernel) ⟨Nat.le_of_ble_eq_true rfl, Nat.le_of_ble_eq_true rfl⟩) (ro_preV (hP.sub [0, 1, 2] rfl) hK (va_recv hK hP (ci := 3) (q0 := 0) rfl rfl)) rfl rfl hl.1 rfl (lv_room (Nat.le_of_ble_eq_true rfl)) dM_add_26 ⟨Nat.le_of_ble_eq_true rfl, Nat.le_of_ble_eq_true rfl⟩) ?_
      refine lc_eq (tgt := 36) hx hb dM_add_29 dM_add_30 (by decide) (fun c_30 => ?_) (fun c_30 => ?_)
      · skip
        refine lv_lload_n hx hb dM_add_36 rfl (lv_at hl 2 rfl) ?_
        refine lv_ldc2 (v := 4294967295) hx hb hown (hts (.constantLong RM 46 4294967295) (by decide +kernel)) dM_add_37 ?_
        refine lc_gt (tgt := 54) hx hb dM_add_40 dM_add_41 (by decide) (fun c_41 => ?_) (fun c_41 => ?_)
        · skip
          refine lv_bipush (v := (-4)) hx hb dM_add_54 (by decide) ?_
          exact ro_iret hQ hx hb hr hlocks dM_add_56 rfl
        · skip
          exact absurd ht9 c_41
      · skip
        exact absurd hb9 c_30
    · skip
      rw [← nI_0] at c_16
      have c_16 : ¬ (Zb j) = 0 := n_ne c_16
      omega
  · skip
    rw [← nI_0] at c_5
    have c_5 : 1 = 0 := n_eq c_5 (by omega) (by omega)
    omega

abbrev rm_k_add_timeS : Room := { frames := 3, cells := 0, slots := 0, locals := 78 }
set_option maxRecDepth 100000 in
set_option maxHeartbeats 4000000 in
theorem k_add_timeS (l : Launch) (D : va_G) (cI cJ cZ : ClassId) (o : Nat) (mo : Nat) (n : Nat) (aP : Nat) (aH : Nat) (aT : Nat) (aB : Nat) (aZ : Nat) (aS : Nat) (aa : Nat) (ab : Nat) (ac : Nat) (aR : Nat) (P : Nat → Nat) (Hh : Nat → Nat) (Tm : Nat → Int64) (Bt : Nat → Int64) (α : Nat → Nat) (β : Nat → Nat) (Zb : Nat → Nat) (Rk : Nat → Int64) (j : Nat) (t : Int64) (b : Int64) (hn3 : n ≤ 300) (hj : j < n) (hHj : Hh j < 300) (hz0 : Zb j = 0) (h8 : ¬ (Hh j + 1) % 8 = 0) (hb9 : b = Bt j) (ht8 : ¬ 4294967295 < t) (ht9 : ¬ (m_med P Tm 11 0 (j + 1) Rk).1 ((m_med P Tm 11 0 (j + 1) Rk).2 / 2) < t) (hpar : ∀ x : Nat, 0 < x → x < n → P x < x) : rw_C l yM_add wM_add rm_k_add_timeS D vwCl (gT cI cJ cZ) [.ref o, .int (nI j), .long t, .long b] [(o, .inr (3, [.int (nI mo), .int (nI n), .ref aP, .ref aH, .ref aT, .ref aB, .ref aZ, .ref aS, .ref aa, .ref ab, .ref ac, .ref aR])), (aP, .inl (cI, 300, .inl (pF P))), (aH, .inl (cI, 300, .inl (nF Hh))), (aT, .inl (cJ, 300, .inr (.inl Tm))), (aB, .inl (cJ, 300, .inr (.inl Bt))), (aa, .inl (cI, 40, .inl (nF α))), (ab, .inl (cI, 40, .inl (nF β))), (aZ, .inl (cZ, 300, .inl (nF Zb))), (aR, .inl (cJ, 11, .inr (.inl Rk)))] (fun v9 w9 => v9 = some (.int (-4)) ∧ w9 = [(o, .inr (3, [.int (nI mo), .int (nI n), .ref aP, .ref aH, .ref aT, .ref aB, .ref aZ, .ref aS, .ref aa, .ref ab, .ref ac, .ref aR])), (aP, .inl (cI, 300, .inl (pF P))), (aH, .inl (cI, 300, .inl (nF Hh))), (aT, .inl (cJ, 300, .inr (.inl Tm))), (aB, .inl (cJ, 300, .inr (.inl Bt))), (aa, .inl (cI, 40, .inl (nF α))), (ab, .inl (cI, 40, .inl (nF β))), (aZ, .inl (cZ, 300, .inl (nF Zb))), (aR, .inl (cJ, 11, .inr (.inl ((m_med P Tm 11 0 (j + 1) Rk).1))))]) 0 0 := by
  refine rw_of (cc := cM_add) (maxL := 6) (ret := some .int) (by decide) rfl (Nat.le_of_ble_eq_true rfl) ?_
  intro p e s m args below meth c Q A ls hx hb hr hml hown hts hlocks hin hK hP hD hA hl hQ
  have hS : va_S A s.heap s.heap [] := va_S.rf
  have hl : lv_has ls 6 [(0, .ref o), (1, .int (nI j)), (2, .long t), (4, .long b)] := hl
  have hown : s.vm.findClass RM = some m.cls := hown
  obtain ⟨H, hHe⟩ : ∃ H : Heap, H = s.heap := ⟨_, rfl⟩
  rw [← hHe] at hP
  have hS : va_S A s.heap H [] := by rw [hHe]; exact va_S.rf
  suffices h9 : W p l e rm_k_add_timeS s m args below meth c H [] 0 0 Q (F0 m 0 ls []) by rw [hHe] at h9; exact h9
  clear hHe
  refine lv_aload_n hx hb dM_add_0 rfl (lv_at hl 0 rfl) ?_
  refine lv_iload_n hx hb dM_add_1 rfl (lv_at hl 1 rfl) ?_
  refine ro_ki (va_runV (As := [.int (nI j)]) (rest := []) ⟨hx, hb, hml, hown, hts⟩ (k_isBlock_ok l D cI cJ cZ o mo n aP aH aT aB aZ aS aa ab ac aR j (by omega) (by omega)) (cwV 1 hts gM_add_M_isBlock_102 rfl rfl rfl (by decide +kernel) ⟨Nat.le_of_ble_eq_true rfl, Nat.le_of_ble_eq_true rfl⟩) (ro_preV (hP.sub [0] rfl) hK (va_recv hK hP (ci := 3) (q0 := 0) rfl rfl)) rfl rfl hl.1 rfl (lv_room (Nat.le_of_ble_eq_true rfl)) dM_add_2 ⟨Nat.le_of_ble_eq_true rfl, Nat.le_of_ble_eq_true rfl⟩) ?_
  refine lv_if_ne (tgt := 10) hx hb dM_add_5 (by decide) (fun c_5 => ?_) (fun c_5 => ?_)
  · skip
    rw [← nI_0] at c_5
    have c_5 : ¬ 1 = 0 := n_ne c_5
    refine lv_aload_n hx hb dM_add_10 rfl (lv_at hl 0 rfl) ?_
    refine va_get (D := D) (ci := 3) (v := .ref aZ) (C := RM) (T := TM) (N := 12) hx hb hts iM_add_M hown hK hP 0 rfl rfl 6 (by decide) (hts (.fieldLink RM 23 "TreeDeskModel" "bad" "[Z") (by decide +kernel)) (fun _ h9 => h9) rfl dM_add_11 ?_
    refine lv_iload_n hx hb dM_add_14 rfl (lv_at hl 1 rfl) ?_
    refine ar_zld (j := j) hx hb hK hP 7 2 rfl rfl dM_add_15 (by omega) (by omega) ?_
    refine tp_i (y := nI (Zb j)) rfl ?_
    refine lv_if_eq (tgt := 22) hx hb dM_add_16 (by decide) (fun c_16 => ?_) (fun c_16 => ?_)
    · skip
      rw [← nI_0] at c_16
      have c_16 : (Zb j) = 0 := n_eq c_16 (by omega) (by omega)
      refine lv_lload hx hb dM_add_22 (lv_at hl 3 rfl) ?_
      refine lv_aload_n hx hb dM_add_24 rfl (lv_at hl 0 rfl) ?_
      refine lv_iload_n hx hb dM_add_25 rfl (lv_at hl 1 rfl) ?_
      refine ro_kl (va_runV (As := [.int (nI j)]) (rest := [.long b]) ⟨hx, hb, hml, hown, hts⟩ (k_must_same l D cI cJ cZ o mo n aP aH aT aB aZ aS aa ab ac aR Hh Bt j (by omega) (by omega) (by omega) h8) (cwV 1 hts gM_add_M_must_122 rfl rfl rfl (by decide +kernel) ⟨Nat.le_of_ble_eq_true rfl, Nat.le_of_ble_eq_true rfl⟩) (ro_preV (hP.sub [0, 2, 4] rfl) hK (va_recv hK hP (ci := 3) (q0 := 0) rfl rfl)) rfl rfl hl.1 rfl (lv_room (Nat.le_of_ble_eq_true rfl)) dM_add_26 ⟨Nat.le_of_ble_eq_true rfl, Nat.le_of_ble_eq_true rfl⟩) ?_
      refine lc_eq (tgt := 36) hx hb dM_add_29 dM_add_30 (by decide) (fun c_30 => ?_) (fun c_30 => ?_)
      · skip
        refine lv_lload_n hx hb dM_add_36 rfl (lv_at hl 2 rfl) ?_
        refine lv_ldc2 (v := 4294967295) hx hb hown (hts (.constantLong RM 46 4294967295) (by decide +kernel)) dM_add_37 ?_
        refine lc_gt (tgt := 54) hx hb dM_add_40 dM_add_41 (by decide) (fun c_41 => ?_) (fun c_41 => ?_)
        · skip
          exact absurd c_41 ht8
        · skip
          refine lv_lload_n hx hb dM_add_44 rfl (lv_at hl 2 rfl) ?_
          refine lv_aload_n hx hb dM_add_45 rfl (lv_at hl 0 rfl) ?_
          refine lv_iload_n hx hb dM_add_46 rfl (lv_at hl 1 rfl) ?_
          refine rw_k (wc := [(o, .inr (3, [.int (nI mo), .int (nI n), .ref aP, .ref aH, .ref aT, .ref aB, .ref aZ, .ref aS, .ref aa, .ref ab, .ref ac, .ref aR])), (aP, .inl (cI, 300, .inl (pF P))), (aT, .inl (cJ, 300, .inr (.inl Tm))), (aR, .inl (cJ, 11, .inr (.inl Rk)))]) (wr := [(aH, .inl (cI, 300, .inl (nF Hh))), (aB, .inl (cJ, 300, .inr (.inl Bt))), (aa, .inl (cI, 40, .inl (nF α))), (ab, .inl (cI, 40, .inl (nF β))), (aZ, .inl (cZ, 300, .inl (nF Zb)))]) (va_runV (As := [.int (nI j)]) (rest := [.long t]) ⟨hx, hb, hml, hown, hts⟩ (k_median l D cI cJ cZ o mo n aP aH aT aB aZ aS aa ab ac aR P Tm Rk j (by omega) (by omega) hpar H.size) (cwV 1 hts gM_add_M_median_126 rfl rfl rfl (by decide +kernel) ⟨Nat.le_of_ble_eq_true rfl, Nat.le_of_ble_eq_true rfl⟩) (rw_preV (hP.sub [0, 1, 3, 8] rfl) hK (hD.sub [0, 1, 3, 8] (by decide) rfl) (va_recv hK hP (ci := 3) (q0 := 0) rfl rfl)) rfl rfl hl.1 rfl (lv_room (Nat.le_of_ble_eq_true rfl)) dM_add_47 ⟨Nat.le_of_ble_eq_true rfl, Nat.le_of_ble_eq_true rfl⟩) hP hD hS hA [0, 1, 3, 8] [2, 4, 5, 6, 7] rfl rfl (by decide) (by decide) (fun v9 w9 H locs hp9 hP hD hS => ?_)
          obtain ⟨rfl, rfl⟩ := hp9
          have hP : va_P D vwCl [(aH, .inl (cI, 300, .inl (nF Hh))), (aB, .inl (cJ, 300, .inr (.inl Bt))), (aa, .inl (cI, 40, .inl (nF α))), (ab, .inl (cI, 40, .inl (nF β))), (aZ, .inl (cZ, 300, .inl (nF Zb))), (o, .inr (3, [.int (nI mo), .int (nI n), .ref aP, .ref aH, .ref aT, .ref aB, .ref aZ, .ref aS, .ref aa, .ref ab, .ref ac, .ref aR])), (aP, .inl (cI, 300, .inl (pF P))), (aT, .inl (cJ, 300, .inr (.inl Tm))), (aR, .inl (cJ, 11, .inr (.inl ((m_med P Tm 11 0 (j + 1) Rk).1))))] H := hP
          have hD : va_D A [(aH, .inl (cI, 300, .inl (nF Hh))), (aB, .inl (cJ, 300, .inr (.inl Bt))), (aa, .inl (cI, 40, .inl (nF α))), (ab, .inl (cI, 40, .inl (nF β))), (aZ, .inl (cZ, 300, .inl (nF Zb))), (o, .inr (3, [.int (nI mo), .int (nI n), .ref aP, .ref aH, .ref aT, .ref aB, .ref aZ, .ref aS, .ref aa, .ref ab, .ref ac, .ref aR])), (aP, .inl (cI, 300, .inl (pF P))), (aT, .inl (cJ, 300, .inr (.inl Tm))), (aR, .inl (cJ, 11, .inr (.inl ((m_med P Tm 11 0 (j + 1) Rk).1))))] := hD
          refine W.eq (g2 := F0 m 50 ls [.long ((m_med P Tm 11 0 (j + 1) Rk).1 ((m_med P Tm 11 0 (j + 1) Rk).2 / 2)), .long t]) rfl ?_
          refine lc_gt (tgt := 57) hx hb dM_add_50 dM_add_51 (by decide) (fun c_51 => ?_) (fun c_51 => ?_)
          · skip
            exact absurd c_51 ht9
          · skip
            refine lv_bipush (v := (-4)) hx hb dM_add_54 (by decide) ?_
            exact rw_iret (w := [(o, .inr (3, [.int (nI mo), .int (nI n), .ref aP, .ref aH, .ref aT, .ref aB, .ref aZ, .ref aS, .ref aa, .ref ab, .ref ac, .ref aR])), (aP, .inl (cI, 300, .inl (pF P))), (aH, .inl (cI, 300, .inl (nF Hh))), (aT, .inl (cJ, 300, .inr (.inl Tm))), (aB, .inl (cJ, 300, .inr (.inl Bt))), (aa, .inl (cI, 40, .inl (nF α))), (ab, .inl (cI, 40, .inl (nF β))), (aZ, .inl (cZ, 300, .inl (nF Zb))), (aR, .inl (cJ, 11, .inr (.inl ((m_med P Tm 11 0 (j + 1) Rk).1))))]) hQ hx hb hr hlocks dM_add_56 (hP.sub [5, 6, 0, 7, 1, 2, 3, 4, 8] rfl) (hD.sub [5, 6, 0, 7, 1, 2, 3, 4, 8] (by decide) rfl) hS ⟨rfl, rfl⟩
      · skip
        exact absurd hb9 c_30
    · skip
      rw [← nI_0] at c_16
      have c_16 : ¬ (Zb j) = 0 := n_ne c_16
      omega
  · skip
    rw [← nI_0] at c_5
    have c_5 : 1 = 0 := n_eq c_5 (by omega) (by omega)
    omega

abbrev rm_k_add_fullS : Room := { frames := 3, cells := 0, slots := 0, locals := 78 }
set_option maxRecDepth 100000 in
set_option maxHeartbeats 4000000 in
theorem k_add_fullS (l : Launch) (D : va_G) (cI cJ cZ : ClassId) (o : Nat) (mo : Nat) (n : Nat) (aP : Nat) (aH : Nat) (aT : Nat) (aB : Nat) (aZ : Nat) (aS : Nat) (aa : Nat) (ab : Nat) (ac : Nat) (aR : Nat) (P : Nat → Nat) (Hh : Nat → Nat) (Tm : Nat → Int64) (Bt : Nat → Int64) (α : Nat → Nat) (β : Nat → Nat) (Zb : Nat → Nat) (Rk : Nat → Int64) (j : Nat) (t : Int64) (b : Int64) (hn3 : n ≤ 300) (hj : j < n) (hHj : Hh j < 300) (hz0 : Zb j = 0) (h8 : ¬ (Hh j + 1) % 8 = 0) (hb9 : b = Bt j) (ht8 : ¬ 4294967295 < t) (ht9 : (m_med P Tm 11 0 (j + 1) Rk).1 ((m_med P Tm 11 0 (j + 1) Rk).2 / 2) < t) (hfl : n = mo) (hpar : ∀ x : Nat, 0 < x → x < n → P x < x) : rw_C l yM_add wM_add rm_k_add_fullS D vwCl (gT cI cJ cZ) [.ref o, .int (nI j), .long t, .long b] [(o, .inr (3, [.int (nI mo), .int (nI n), .ref aP, .ref aH, .ref aT, .ref aB, .ref aZ, .ref aS, .ref aa, .ref ab, .ref ac, .ref aR])), (aP, .inl (cI, 300, .inl (pF P))), (aH, .inl (cI, 300, .inl (nF Hh))), (aT, .inl (cJ, 300, .inr (.inl Tm))), (aB, .inl (cJ, 300, .inr (.inl Bt))), (aa, .inl (cI, 40, .inl (nF α))), (ab, .inl (cI, 40, .inl (nF β))), (aZ, .inl (cZ, 300, .inl (nF Zb))), (aR, .inl (cJ, 11, .inr (.inl Rk)))] (fun v9 w9 => v9 = some (.int (-5)) ∧ w9 = [(o, .inr (3, [.int (nI mo), .int (nI n), .ref aP, .ref aH, .ref aT, .ref aB, .ref aZ, .ref aS, .ref aa, .ref ab, .ref ac, .ref aR])), (aP, .inl (cI, 300, .inl (pF P))), (aH, .inl (cI, 300, .inl (nF Hh))), (aT, .inl (cJ, 300, .inr (.inl Tm))), (aB, .inl (cJ, 300, .inr (.inl Bt))), (aa, .inl (cI, 40, .inl (nF α))), (ab, .inl (cI, 40, .inl (nF β))), (aZ, .inl (cZ, 300, .inl (nF Zb))), (aR, .inl (cJ, 11, .inr (.inl ((m_med P Tm 11 0 (j + 1) Rk).1))))]) 0 0 := by
  refine rw_of (cc := cM_add) (maxL := 6) (ret := some .int) (by decide) rfl (Nat.le_of_ble_eq_true rfl) ?_
  intro p e s m args below meth c Q A ls hx hb hr hml hown hts hlocks hin hK hP hD hA hl hQ
  have hS : va_S A s.heap s.heap [] := va_S.rf
  have hl : lv_has ls 6 [(0, .ref o), (1, .int (nI j)), (2, .long t), (4, .long b)] := hl
  have hown : s.vm.findClass RM = some m.cls := hown
  obtain ⟨H, hHe⟩ : ∃ H : Heap, H = s.heap := ⟨_, rfl⟩
  rw [← hHe] at hP
  have hS : va_S A s.heap H [] := by rw [hHe]; exact va_S.rf
  suffices h9 : W p l e rm_k_add_fullS s m args below meth c H [] 0 0 Q (F0 m 0 ls []) by rw [hHe] at h9; exact h9
  clear hHe
  refine lv_aload_n hx hb dM_add_0 rfl (lv_at hl 0 rfl) ?_
  refine lv_iload_n hx hb dM_add_1 rfl (lv_at hl 1 rfl) ?_
  refine ro_ki (va_runV (As := [.int (nI j)]) (rest := []) ⟨hx, hb, hml, hown, hts⟩ (k_isBlock_ok l D cI cJ cZ o mo n aP aH aT aB aZ aS aa ab ac aR j (by omega) (by omega)) (cwV 1 hts gM_add_M_isBlock_102 rfl rfl rfl (by decide +kernel) ⟨Nat.le_of_ble_eq_true rfl, Nat.le_of_ble_eq_true rfl⟩) (ro_preV (hP.sub [0] rfl) hK (va_recv hK hP (ci := 3) (q0 := 0) rfl rfl)) rfl rfl hl.1 rfl (lv_room (Nat.le_of_ble_eq_true rfl)) dM_add_2 ⟨Nat.le_of_ble_eq_true rfl, Nat.le_of_ble_eq_true rfl⟩) ?_
  refine lv_if_ne (tgt := 10) hx hb dM_add_5 (by decide) (fun c_5 => ?_) (fun c_5 => ?_)
  · skip
    rw [← nI_0] at c_5
    have c_5 : ¬ 1 = 0 := n_ne c_5
    refine lv_aload_n hx hb dM_add_10 rfl (lv_at hl 0 rfl) ?_
    refine va_get (D := D) (ci := 3) (v := .ref aZ) (C := RM) (T := TM) (N := 12) hx hb hts iM_add_M hown hK hP 0 rfl rfl 6 (by decide) (hts (.fieldLink RM 23 "TreeDeskModel" "bad" "[Z") (by decide +kernel)) (fun _ h9 => h9) rfl dM_add_11 ?_
    refine lv_iload_n hx hb dM_add_14 rfl (lv_at hl 1 rfl) ?_
    refine ar_zld (j := j) hx hb hK hP 7 2 rfl rfl dM_add_15 (by omega) (by omega) ?_
    refine tp_i (y := nI (Zb j)) rfl ?_
    refine lv_if_eq (tgt := 22) hx hb dM_add_16 (by decide) (fun c_16 => ?_) (fun c_16 => ?_)
    · skip
      rw [← nI_0] at c_16
      have c_16 : (Zb j) = 0 := n_eq c_16 (by omega) (by omega)
      refine lv_lload hx hb dM_add_22 (lv_at hl 3 rfl) ?_
      refine lv_aload_n hx hb dM_add_24 rfl (lv_at hl 0 rfl) ?_
      refine lv_iload_n hx hb dM_add_25 rfl (lv_at hl 1 rfl) ?_
      refine ro_kl (va_runV (As := [.int (nI j)]) (rest := [.long b]) ⟨hx, hb, hml, hown, hts⟩ (k_must_same l D cI cJ cZ o mo n aP aH aT aB aZ aS aa ab ac aR Hh Bt j (by omega) (by omega) (by omega) h8) (cwV 1 hts gM_add_M_must_122 rfl rfl rfl (by decide +kernel) ⟨Nat.le_of_ble_eq_true rfl, Nat.le_of_ble_eq_true rfl⟩) (ro_preV (hP.sub [0, 2, 4] rfl) hK (va_recv hK hP (ci := 3) (q0 := 0) rfl rfl)) rfl rfl hl.1 rfl (lv_room (Nat.le_of_ble_eq_true rfl)) dM_add_26 ⟨Nat.le_of_ble_eq_true rfl, Nat.le_of_ble_eq_true rfl⟩) ?_
      refine lc_eq (tgt := 36) hx hb dM_add_29 dM_add_30 (by decide) (fun c_30 => ?_) (fun c_30 => ?_)
      · skip
        refine lv_lload_n hx hb dM_add_36 rfl (lv_at hl 2 rfl) ?_
        refine lv_ldc2 (v := 4294967295) hx hb hown (hts (.constantLong RM 46 4294967295) (by decide +kernel)) dM_add_37 ?_
        refine lc_gt (tgt := 54) hx hb dM_add_40 dM_add_41 (by decide) (fun c_41 => ?_) (fun c_41 => ?_)
        · skip
          exact absurd c_41 ht8
        · skip
          refine lv_lload_n hx hb dM_add_44 rfl (lv_at hl 2 rfl) ?_
          refine lv_aload_n hx hb dM_add_45 rfl (lv_at hl 0 rfl) ?_
          refine lv_iload_n hx hb dM_add_46 rfl (lv_at hl 1 rfl) ?_
          refine rw_k (wc := [(o, .inr (3, [.int (nI mo), .int (nI n), .ref aP, .ref aH, .ref aT, .ref aB, .ref aZ, .ref aS, .ref aa, .ref ab, .ref ac, .ref aR])), (aP, .inl (cI, 300, .inl (pF P))), (aT, .inl (cJ, 300, .inr (.inl Tm))), (aR, .inl (cJ, 11, .inr (.inl Rk)))]) (wr := [(aH, .inl (cI, 300, .inl (nF Hh))), (aB, .inl (cJ, 300, .inr (.inl Bt))), (aa, .inl (cI, 40, .inl (nF α))), (ab, .inl (cI, 40, .inl (nF β))), (aZ, .inl (cZ, 300, .inl (nF Zb)))]) (va_runV (As := [.int (nI j)]) (rest := [.long t]) ⟨hx, hb, hml, hown, hts⟩ (k_median l D cI cJ cZ o mo n aP aH aT aB aZ aS aa ab ac aR P Tm Rk j (by omega) (by omega) hpar H.size) (cwV 1 hts gM_add_M_median_126 rfl rfl rfl (by decide +kernel) ⟨Nat.le_of_ble_eq_true rfl, Nat.le_of_ble_eq_true rfl⟩) (rw_preV (hP.sub [0, 1, 3, 8] rfl) hK (hD.sub [0, 1, 3, 8] (by decide) rfl) (va_recv hK hP (ci := 3) (q0 := 0) rfl rfl)) rfl rfl hl.1 rfl (lv_room (Nat.le_of_ble_eq_true rfl)) dM_add_47 ⟨Nat.le_of_ble_eq_true rfl, Nat.le_of_ble_eq_true rfl⟩) hP hD hS hA [0, 1, 3, 8] [2, 4, 5, 6, 7] rfl rfl (by decide) (by decide) (fun v9 w9 H locs hp9 hP hD hS => ?_)
          obtain ⟨rfl, rfl⟩ := hp9
          have hP : va_P D vwCl [(aH, .inl (cI, 300, .inl (nF Hh))), (aB, .inl (cJ, 300, .inr (.inl Bt))), (aa, .inl (cI, 40, .inl (nF α))), (ab, .inl (cI, 40, .inl (nF β))), (aZ, .inl (cZ, 300, .inl (nF Zb))), (o, .inr (3, [.int (nI mo), .int (nI n), .ref aP, .ref aH, .ref aT, .ref aB, .ref aZ, .ref aS, .ref aa, .ref ab, .ref ac, .ref aR])), (aP, .inl (cI, 300, .inl (pF P))), (aT, .inl (cJ, 300, .inr (.inl Tm))), (aR, .inl (cJ, 11, .inr (.inl ((m_med P Tm 11 0 (j + 1) Rk).1))))] H := hP
          have hD : va_D A [(aH, .inl (cI, 300, .inl (nF Hh))), (aB, .inl (cJ, 300, .inr (.inl Bt))), (aa, .inl (cI, 40, .inl (nF α))), (ab, .inl (cI, 40, .inl (nF β))), (aZ, .inl (cZ, 300, .inl (nF Zb))), (o, .inr (3, [.int (nI mo), .int (nI n), .ref aP, .ref aH, .ref aT, .ref aB, .ref aZ, .ref aS, .ref aa, .ref ab, .ref ac, .ref aR])), (aP, .inl (cI, 300, .inl (pF P))), (aT, .inl (cJ, 300, .inr (.inl Tm))), (aR, .inl (cJ, 11, .inr (.inl ((m_med P Tm 11 0 (j + 1) Rk).1))))] := hD
          refine W.eq (g2 := F0 m 50 ls [.long ((m_med P Tm 11 0 (j + 1) Rk).1 ((m_med P Tm 11 0 (j + 1) Rk).2 / 2)), .long t]) rfl ?_
          refine lc_gt (tgt := 57) hx hb dM_add_50 dM_add_51 (by decide) (fun c_51 => ?_) (fun c_51 => ?_)
          · skip
            refine lv_aload_n hx hb dM_add_57 rfl (lv_at hl 0 rfl) ?_
            refine va_get (D := D) (ci := 3) (v := .int (nI n)) (C := RM) (T := TM) (N := 12) hx hb hts iM_add_M hown hK hP 5 rfl rfl 1 (by decide) (hts (.fieldLink RM 54 "TreeDeskModel" "many" "I") (by decide +kernel)) (fun _ h9 => h9) rfl dM_add_58 ?_
            refine lv_aload_n hx hb dM_add_61 rfl (lv_at hl 0 rfl) ?_
            refine va_get (D := D) (ci := 3) (v := .int (nI mo)) (C := RM) (T := TM) (N := 12) hx hb hts iM_add_M hown hK hP 5 rfl rfl 0 (by decide) (hts (.fieldLink RM 42 "TreeDeskModel" "most" "I") (by decide +kernel)) (fun _ h9 => h9) rfl dM_add_62 ?_
            refine lv_icmp_ne (tgt := 71) hx hb dM_add_65 (by decide) (fun c_65 => ?_) (fun c_65 => ?_)
            · skip
              have c_65 : ¬ n = mo := n_ne c_65
              omega
            · skip
              have c_65 : n = mo := n_eq c_65 (by omega) (by omega)
              refine lv_bipush (v := (-5)) hx hb dM_add_68 (by decide) ?_
              exact rw_iret (w := [(o, .inr (3, [.int (nI mo), .int (nI n), .ref aP, .ref aH, .ref aT, .ref aB, .ref aZ, .ref aS, .ref aa, .ref ab, .ref ac, .ref aR])), (aP, .inl (cI, 300, .inl (pF P))), (aH, .inl (cI, 300, .inl (nF Hh))), (aT, .inl (cJ, 300, .inr (.inl Tm))), (aB, .inl (cJ, 300, .inr (.inl Bt))), (aa, .inl (cI, 40, .inl (nF α))), (ab, .inl (cI, 40, .inl (nF β))), (aZ, .inl (cZ, 300, .inl (nF Zb))), (aR, .inl (cJ, 11, .inr (.inl ((m_med P Tm 11 0 (j + 1) Rk).1))))]) hQ hx hb hr hlocks dM_add_70 (hP.sub [5, 6, 0, 7, 1, 2, 3, 4, 8] rfl) (hD.sub [5, 6, 0, 7, 1, 2, 3, 4, 8] (by decide) rfl) hS ⟨rfl, rfl⟩
          · skip
            exact absurd ht9 c_51
      · skip
        exact absurd hb9 c_30
    · skip
      rw [← nI_0] at c_16
      have c_16 : ¬ (Zb j) = 0 := n_ne c_16
      omega
  · skip
    rw [← nI_0] at c_5
    have c_5 : 1 = 0 := n_eq c_5 (by omega) (by omega)
    omega

abbrev rm_k_add_bitsR : Room := { frames := 3, cells := 0, slots := 0, locals := 78 }
set_option maxRecDepth 100000 in
set_option maxHeartbeats 4000000 in
theorem k_add_bitsR (l : Launch) (D : va_G) (cI cJ cZ : ClassId) (o : Nat) (mo : Nat) (n : Nat) (aP : Nat) (aH : Nat) (aT : Nat) (aB : Nat) (aZ : Nat) (aS : Nat) (aa : Nat) (ab : Nat) (ac : Nat) (aR : Nat) (P : Nat → Nat) (Hh : Nat → Nat) (Tm : Nat → Int64) (Bt : Nat → Int64) (α : Nat → Nat) (β : Nat → Nat) (Zb : Nat → Nat) (Rk : Nat → Int64) (j : Nat) (t : Int64) (b : Int64) (v0 : Nat) (hn3 : n ≤ 300) (hj : j < n) (hHj : Hh j < 300) (hz0 : Zb j = 0) (h8 : (Hh j + 1) % 8 = 0) (hbv : Bt j = lN v0) (hv0 : v0 < 4294967296) (hα8 : by8 α) (hβ8 : by8 β) (hb9 : ¬ b = lN (r_must v0 (Tm j - Tm (m_anc P (Hh j - (Hh j - 7)) j)) α β)) (hpar : ∀ x : Nat, 0 < x → x < n → P x < x) (hH0 : Hh 0 = 0) (hHs : ∀ x : Nat, 0 < x → x < n → Hh x = Hh (P x) + 1) (hHb : ∀ x : Nat, x < n → Hh x < 300) : rw_C l yM_add wM_add rm_k_add_bitsR D vwCl (gT cI cJ cZ) [.ref o, .int (nI j), .long t, .long b] [(o, .inr (3, [.int (nI mo), .int (nI n), .ref aP, .ref aH, .ref aT, .ref aB, .ref aZ, .ref aS, .ref aa, .ref ab, .ref ac, .ref aR])), (aP, .inl (cI, 300, .inl (pF P))), (aH, .inl (cI, 300, .inl (nF Hh))), (aT, .inl (cJ, 300, .inr (.inl Tm))), (aB, .inl (cJ, 300, .inr (.inl Bt))), (aa, .inl (cI, 40, .inl (nF α))), (ab, .inl (cI, 40, .inl (nF β))), (aZ, .inl (cZ, 300, .inl (nF Zb))), (aR, .inl (cJ, 11, .inr (.inl Rk)))] (fun v9 w9 => v9 = some (.int (-3)) ∧ w9 = [(o, .inr (3, [.int (nI mo), .int (nI n), .ref aP, .ref aH, .ref aT, .ref aB, .ref aZ, .ref aS, .ref aa, .ref ab, .ref ac, .ref aR])), (aP, .inl (cI, 300, .inl (pF P))), (aH, .inl (cI, 300, .inl (nF Hh))), (aT, .inl (cJ, 300, .inr (.inl Tm))), (aB, .inl (cJ, 300, .inr (.inl Bt))), (aa, .inl (cI, 40, .inl (nF (r_mustA v0 (Tm j - Tm (m_anc P (Hh j - (Hh j - 7)) j)) α)))), (ab, .inl (cI, 40, .inl (nF (r_open 545259519 β)))), (aZ, .inl (cZ, 300, .inl (nF Zb))), (aR, .inl (cJ, 11, .inr (.inl Rk)))]) 0 0 := by
  refine rw_of (cc := cM_add) (maxL := 6) (ret := some .int) (by decide) rfl (Nat.le_of_ble_eq_true rfl) ?_
  intro p e s m args below meth c Q A ls hx hb hr hml hown hts hlocks hin hK hP hD hA hl hQ
  have hS : va_S A s.heap s.heap [] := va_S.rf
  have hl : lv_has ls 6 [(0, .ref o), (1, .int (nI j)), (2, .long t), (4, .long b)] := hl
  have hown : s.vm.findClass RM = some m.cls := hown
  obtain ⟨H, hHe⟩ : ∃ H : Heap, H = s.heap := ⟨_, rfl⟩
  rw [← hHe] at hP
  have hS : va_S A s.heap H [] := by rw [hHe]; exact va_S.rf
  suffices h9 : W p l e rm_k_add_bitsR s m args below meth c H [] 0 0 Q (F0 m 0 ls []) by rw [hHe] at h9; exact h9
  clear hHe
  refine lv_aload_n hx hb dM_add_0 rfl (lv_at hl 0 rfl) ?_
  refine lv_iload_n hx hb dM_add_1 rfl (lv_at hl 1 rfl) ?_
  refine ro_ki (va_runV (As := [.int (nI j)]) (rest := []) ⟨hx, hb, hml, hown, hts⟩ (k_isBlock_ok l D cI cJ cZ o mo n aP aH aT aB aZ aS aa ab ac aR j (by omega) (by omega)) (cwV 1 hts gM_add_M_isBlock_102 rfl rfl rfl (by decide +kernel) ⟨Nat.le_of_ble_eq_true rfl, Nat.le_of_ble_eq_true rfl⟩) (ro_preV (hP.sub [0] rfl) hK (va_recv hK hP (ci := 3) (q0 := 0) rfl rfl)) rfl rfl hl.1 rfl (lv_room (Nat.le_of_ble_eq_true rfl)) dM_add_2 ⟨Nat.le_of_ble_eq_true rfl, Nat.le_of_ble_eq_true rfl⟩) ?_
  refine lv_if_ne (tgt := 10) hx hb dM_add_5 (by decide) (fun c_5 => ?_) (fun c_5 => ?_)
  · skip
    rw [← nI_0] at c_5
    have c_5 : ¬ 1 = 0 := n_ne c_5
    refine lv_aload_n hx hb dM_add_10 rfl (lv_at hl 0 rfl) ?_
    refine va_get (D := D) (ci := 3) (v := .ref aZ) (C := RM) (T := TM) (N := 12) hx hb hts iM_add_M hown hK hP 0 rfl rfl 6 (by decide) (hts (.fieldLink RM 23 "TreeDeskModel" "bad" "[Z") (by decide +kernel)) (fun _ h9 => h9) rfl dM_add_11 ?_
    refine lv_iload_n hx hb dM_add_14 rfl (lv_at hl 1 rfl) ?_
    refine ar_zld (j := j) hx hb hK hP 7 2 rfl rfl dM_add_15 (by omega) (by omega) ?_
    refine tp_i (y := nI (Zb j)) rfl ?_
    refine lv_if_eq (tgt := 22) hx hb dM_add_16 (by decide) (fun c_16 => ?_) (fun c_16 => ?_)
    · skip
      rw [← nI_0] at c_16
      have c_16 : (Zb j) = 0 := n_eq c_16 (by omega) (by omega)
      refine lv_lload hx hb dM_add_22 (lv_at hl 3 rfl) ?_
      refine lv_aload_n hx hb dM_add_24 rfl (lv_at hl 0 rfl) ?_
      refine lv_iload_n hx hb dM_add_25 rfl (lv_at hl 1 rfl) ?_
      refine rw_k (wc := [(o, .inr (3, [.int (nI mo), .int (nI n), .ref aP, .ref aH, .ref aT, .ref aB, .ref aZ, .ref aS, .ref aa, .ref ab, .ref ac, .ref aR])), (aP, .inl (cI, 300, .inl (pF P))), (aH, .inl (cI, 300, .inl (nF Hh))), (aT, .inl (cJ, 300, .inr (.inl Tm))), (aB, .inl (cJ, 300, .inr (.inl Bt))), (aa, .inl (cI, 40, .inl (nF α))), (ab, .inl (cI, 40, .inl (nF β)))]) (wr := [(aZ, .inl (cZ, 300, .inl (nF Zb))), (aR, .inl (cJ, 11, .inr (.inl Rk)))]) (va_runV (As := [.int (nI j)]) (rest := [.long b]) ⟨hx, hb, hml, hown, hts⟩ (k_must_ret l D cI cJ cZ o mo n aP aH aT aB aZ aS aa ab ac aR P Hh Tm Bt α β j v0 (by omega) (by omega) h8 hbv hv0 hα8 hβ8 hpar hH0 hHs hHb H.size) (cwV 1 hts gM_add_M_must_122 rfl rfl rfl (by decide +kernel) ⟨Nat.le_of_ble_eq_true rfl, Nat.le_of_ble_eq_true rfl⟩) (rw_preV (hP.sub [0, 1, 2, 3, 4, 5, 6] rfl) hK (hD.sub [0, 1, 2, 3, 4, 5, 6] (by decide) rfl) (va_recv hK hP (ci := 3) (q0 := 0) rfl rfl)) rfl rfl hl.1 rfl (lv_room (Nat.le_of_ble_eq_true rfl)) dM_add_26 ⟨Nat.le_of_ble_eq_true rfl, Nat.le_of_ble_eq_true rfl⟩) hP hD hS hA [0, 1, 2, 3, 4, 5, 6] [7, 8] rfl rfl (by decide) (by decide) (fun v9 w9 H locs hp9 hP hD hS => ?_)
      obtain ⟨rfl, rfl⟩ := hp9
      have hP : va_P D vwCl [(aZ, .inl (cZ, 300, .inl (nF Zb))), (aR, .inl (cJ, 11, .inr (.inl Rk))), (o, .inr (3, [.int (nI mo), .int (nI n), .ref aP, .ref aH, .ref aT, .ref aB, .ref aZ, .ref aS, .ref aa, .ref ab, .ref ac, .ref aR])), (aP, .inl (cI, 300, .inl (pF P))), (aH, .inl (cI, 300, .inl (nF Hh))), (aT, .inl (cJ, 300, .inr (.inl Tm))), (aB, .inl (cJ, 300, .inr (.inl Bt))), (aa, .inl (cI, 40, .inl (nF (r_mustA v0 (Tm j - Tm (m_anc P (Hh j - (Hh j - 7)) j)) α)))), (ab, .inl (cI, 40, .inl (nF (r_open 545259519 β))))] H := hP
      have hD : va_D A [(aZ, .inl (cZ, 300, .inl (nF Zb))), (aR, .inl (cJ, 11, .inr (.inl Rk))), (o, .inr (3, [.int (nI mo), .int (nI n), .ref aP, .ref aH, .ref aT, .ref aB, .ref aZ, .ref aS, .ref aa, .ref ab, .ref ac, .ref aR])), (aP, .inl (cI, 300, .inl (pF P))), (aH, .inl (cI, 300, .inl (nF Hh))), (aT, .inl (cJ, 300, .inr (.inl Tm))), (aB, .inl (cJ, 300, .inr (.inl Bt))), (aa, .inl (cI, 40, .inl (nF (r_mustA v0 (Tm j - Tm (m_anc P (Hh j - (Hh j - 7)) j)) α)))), (ab, .inl (cI, 40, .inl (nF (r_open 545259519 β))))] := hD
      refine W.eq (g2 := F0 m 29 ls [.long (lN (r_must v0 (Tm j - Tm (m_anc P (Hh j - (Hh j - 7)) j)) α β)), .long b]) rfl ?_
      refine lc_eq (tgt := 36) hx hb dM_add_29 dM_add_30 (by decide) (fun c_30 => ?_) (fun c_30 => ?_)
      · skip
        exact absurd c_30 hb9
      · skip
        refine lv_bipush (v := (-3)) hx hb dM_add_33 (by decide) ?_
        exact rw_iret (w := [(o, .inr (3, [.int (nI mo), .int (nI n), .ref aP, .ref aH, .ref aT, .ref aB, .ref aZ, .ref aS, .ref aa, .ref ab, .ref ac, .ref aR])), (aP, .inl (cI, 300, .inl (pF P))), (aH, .inl (cI, 300, .inl (nF Hh))), (aT, .inl (cJ, 300, .inr (.inl Tm))), (aB, .inl (cJ, 300, .inr (.inl Bt))), (aa, .inl (cI, 40, .inl (nF (r_mustA v0 (Tm j - Tm (m_anc P (Hh j - (Hh j - 7)) j)) α)))), (ab, .inl (cI, 40, .inl (nF (r_open 545259519 β)))), (aZ, .inl (cZ, 300, .inl (nF Zb))), (aR, .inl (cJ, 11, .inr (.inl Rk)))]) hQ hx hb hr hlocks dM_add_35 (hP.sub [2, 3, 4, 5, 6, 7, 8, 0, 1] rfl) (hD.sub [2, 3, 4, 5, 6, 7, 8, 0, 1] (by decide) rfl) hS ⟨rfl, rfl⟩
    · skip
      rw [← nI_0] at c_16
      have c_16 : ¬ (Zb j) = 0 := n_ne c_16
      omega
  · skip
    rw [← nI_0] at c_5
    have c_5 : 1 = 0 := n_eq c_5 (by omega) (by omega)
    omega

abbrev rm_k_add_lateR : Room := { frames := 3, cells := 0, slots := 0, locals := 78 }
set_option maxRecDepth 100000 in
set_option maxHeartbeats 4000000 in
theorem k_add_lateR (l : Launch) (D : va_G) (cI cJ cZ : ClassId) (o : Nat) (mo : Nat) (n : Nat) (aP : Nat) (aH : Nat) (aT : Nat) (aB : Nat) (aZ : Nat) (aS : Nat) (aa : Nat) (ab : Nat) (ac : Nat) (aR : Nat) (P : Nat → Nat) (Hh : Nat → Nat) (Tm : Nat → Int64) (Bt : Nat → Int64) (α : Nat → Nat) (β : Nat → Nat) (Zb : Nat → Nat) (Rk : Nat → Int64) (j : Nat) (t : Int64) (b : Int64) (v0 : Nat) (hn3 : n ≤ 300) (hj : j < n) (hHj : Hh j < 300) (hz0 : Zb j = 0) (h8 : (Hh j + 1) % 8 = 0) (hbv : Bt j = lN v0) (hv0 : v0 < 4294967296) (hα8 : by8 α) (hβ8 : by8 β) (hb9 : b = lN (r_must v0 (Tm j - Tm (m_anc P (Hh j - (Hh j - 7)) j)) α β)) (ht9 : 4294967295 < t) (hpar : ∀ x : Nat, 0 < x → x < n → P x < x) (hH0 : Hh 0 = 0) (hHs : ∀ x : Nat, 0 < x → x < n → Hh x = Hh (P x) + 1) (hHb : ∀ x : Nat, x < n → Hh x < 300) : rw_C l yM_add wM_add rm_k_add_lateR D vwCl (gT cI cJ cZ) [.ref o, .int (nI j), .long t, .long b] [(o, .inr (3, [.int (nI mo), .int (nI n), .ref aP, .ref aH, .ref aT, .ref aB, .ref aZ, .ref aS, .ref aa, .ref ab, .ref ac, .ref aR])), (aP, .inl (cI, 300, .inl (pF P))), (aH, .inl (cI, 300, .inl (nF Hh))), (aT, .inl (cJ, 300, .inr (.inl Tm))), (aB, .inl (cJ, 300, .inr (.inl Bt))), (aa, .inl (cI, 40, .inl (nF α))), (ab, .inl (cI, 40, .inl (nF β))), (aZ, .inl (cZ, 300, .inl (nF Zb))), (aR, .inl (cJ, 11, .inr (.inl Rk)))] (fun v9 w9 => v9 = some (.int (-4)) ∧ w9 = [(o, .inr (3, [.int (nI mo), .int (nI n), .ref aP, .ref aH, .ref aT, .ref aB, .ref aZ, .ref aS, .ref aa, .ref ab, .ref ac, .ref aR])), (aP, .inl (cI, 300, .inl (pF P))), (aH, .inl (cI, 300, .inl (nF Hh))), (aT, .inl (cJ, 300, .inr (.inl Tm))), (aB, .inl (cJ, 300, .inr (.inl Bt))), (aa, .inl (cI, 40, .inl (nF (r_mustA v0 (Tm j - Tm (m_anc P (Hh j - (Hh j - 7)) j)) α)))), (ab, .inl (cI, 40, .inl (nF (r_open 545259519 β)))), (aZ, .inl (cZ, 300, .inl (nF Zb))), (aR, .inl (cJ, 11, .inr (.inl Rk)))]) 0 0 := by
  refine rw_of (cc := cM_add) (maxL := 6) (ret := some .int) (by decide) rfl (Nat.le_of_ble_eq_true rfl) ?_
  intro p e s m args below meth c Q A ls hx hb hr hml hown hts hlocks hin hK hP hD hA hl hQ
  have hS : va_S A s.heap s.heap [] := va_S.rf
  have hl : lv_has ls 6 [(0, .ref o), (1, .int (nI j)), (2, .long t), (4, .long b)] := hl
  have hown : s.vm.findClass RM = some m.cls := hown
  obtain ⟨H, hHe⟩ : ∃ H : Heap, H = s.heap := ⟨_, rfl⟩
  rw [← hHe] at hP
  have hS : va_S A s.heap H [] := by rw [hHe]; exact va_S.rf
  suffices h9 : W p l e rm_k_add_lateR s m args below meth c H [] 0 0 Q (F0 m 0 ls []) by rw [hHe] at h9; exact h9
  clear hHe
  refine lv_aload_n hx hb dM_add_0 rfl (lv_at hl 0 rfl) ?_
  refine lv_iload_n hx hb dM_add_1 rfl (lv_at hl 1 rfl) ?_
  refine ro_ki (va_runV (As := [.int (nI j)]) (rest := []) ⟨hx, hb, hml, hown, hts⟩ (k_isBlock_ok l D cI cJ cZ o mo n aP aH aT aB aZ aS aa ab ac aR j (by omega) (by omega)) (cwV 1 hts gM_add_M_isBlock_102 rfl rfl rfl (by decide +kernel) ⟨Nat.le_of_ble_eq_true rfl, Nat.le_of_ble_eq_true rfl⟩) (ro_preV (hP.sub [0] rfl) hK (va_recv hK hP (ci := 3) (q0 := 0) rfl rfl)) rfl rfl hl.1 rfl (lv_room (Nat.le_of_ble_eq_true rfl)) dM_add_2 ⟨Nat.le_of_ble_eq_true rfl, Nat.le_of_ble_eq_true rfl⟩) ?_
  refine lv_if_ne (tgt := 10) hx hb dM_add_5 (by decide) (fun c_5 => ?_) (fun c_5 => ?_)
  · skip
    rw [← nI_0] at c_5
    have c_5 : ¬ 1 = 0 := n_ne c_5
    refine lv_aload_n hx hb dM_add_10 rfl (lv_at hl 0 rfl) ?_
    refine va_get (D := D) (ci := 3) (v := .ref aZ) (C := RM) (T := TM) (N := 12) hx hb hts iM_add_M hown hK hP 0 rfl rfl 6 (by decide) (hts (.fieldLink RM 23 "TreeDeskModel" "bad" "[Z") (by decide +kernel)) (fun _ h9 => h9) rfl dM_add_11 ?_
    refine lv_iload_n hx hb dM_add_14 rfl (lv_at hl 1 rfl) ?_
    refine ar_zld (j := j) hx hb hK hP 7 2 rfl rfl dM_add_15 (by omega) (by omega) ?_
    refine tp_i (y := nI (Zb j)) rfl ?_
    refine lv_if_eq (tgt := 22) hx hb dM_add_16 (by decide) (fun c_16 => ?_) (fun c_16 => ?_)
    · skip
      rw [← nI_0] at c_16
      have c_16 : (Zb j) = 0 := n_eq c_16 (by omega) (by omega)
      refine lv_lload hx hb dM_add_22 (lv_at hl 3 rfl) ?_
      refine lv_aload_n hx hb dM_add_24 rfl (lv_at hl 0 rfl) ?_
      refine lv_iload_n hx hb dM_add_25 rfl (lv_at hl 1 rfl) ?_
      refine rw_k (wc := [(o, .inr (3, [.int (nI mo), .int (nI n), .ref aP, .ref aH, .ref aT, .ref aB, .ref aZ, .ref aS, .ref aa, .ref ab, .ref ac, .ref aR])), (aP, .inl (cI, 300, .inl (pF P))), (aH, .inl (cI, 300, .inl (nF Hh))), (aT, .inl (cJ, 300, .inr (.inl Tm))), (aB, .inl (cJ, 300, .inr (.inl Bt))), (aa, .inl (cI, 40, .inl (nF α))), (ab, .inl (cI, 40, .inl (nF β)))]) (wr := [(aZ, .inl (cZ, 300, .inl (nF Zb))), (aR, .inl (cJ, 11, .inr (.inl Rk)))]) (va_runV (As := [.int (nI j)]) (rest := [.long b]) ⟨hx, hb, hml, hown, hts⟩ (k_must_ret l D cI cJ cZ o mo n aP aH aT aB aZ aS aa ab ac aR P Hh Tm Bt α β j v0 (by omega) (by omega) h8 hbv hv0 hα8 hβ8 hpar hH0 hHs hHb H.size) (cwV 1 hts gM_add_M_must_122 rfl rfl rfl (by decide +kernel) ⟨Nat.le_of_ble_eq_true rfl, Nat.le_of_ble_eq_true rfl⟩) (rw_preV (hP.sub [0, 1, 2, 3, 4, 5, 6] rfl) hK (hD.sub [0, 1, 2, 3, 4, 5, 6] (by decide) rfl) (va_recv hK hP (ci := 3) (q0 := 0) rfl rfl)) rfl rfl hl.1 rfl (lv_room (Nat.le_of_ble_eq_true rfl)) dM_add_26 ⟨Nat.le_of_ble_eq_true rfl, Nat.le_of_ble_eq_true rfl⟩) hP hD hS hA [0, 1, 2, 3, 4, 5, 6] [7, 8] rfl rfl (by decide) (by decide) (fun v9 w9 H locs hp9 hP hD hS => ?_)
      obtain ⟨rfl, rfl⟩ := hp9
      have hP : va_P D vwCl [(aZ, .inl (cZ, 300, .inl (nF Zb))), (aR, .inl (cJ, 11, .inr (.inl Rk))), (o, .inr (3, [.int (nI mo), .int (nI n), .ref aP, .ref aH, .ref aT, .ref aB, .ref aZ, .ref aS, .ref aa, .ref ab, .ref ac, .ref aR])), (aP, .inl (cI, 300, .inl (pF P))), (aH, .inl (cI, 300, .inl (nF Hh))), (aT, .inl (cJ, 300, .inr (.inl Tm))), (aB, .inl (cJ, 300, .inr (.inl Bt))), (aa, .inl (cI, 40, .inl (nF (r_mustA v0 (Tm j - Tm (m_anc P (Hh j - (Hh j - 7)) j)) α)))), (ab, .inl (cI, 40, .inl (nF (r_open 545259519 β))))] H := hP
      have hD : va_D A [(aZ, .inl (cZ, 300, .inl (nF Zb))), (aR, .inl (cJ, 11, .inr (.inl Rk))), (o, .inr (3, [.int (nI mo), .int (nI n), .ref aP, .ref aH, .ref aT, .ref aB, .ref aZ, .ref aS, .ref aa, .ref ab, .ref ac, .ref aR])), (aP, .inl (cI, 300, .inl (pF P))), (aH, .inl (cI, 300, .inl (nF Hh))), (aT, .inl (cJ, 300, .inr (.inl Tm))), (aB, .inl (cJ, 300, .inr (.inl Bt))), (aa, .inl (cI, 40, .inl (nF (r_mustA v0 (Tm j - Tm (m_anc P (Hh j - (Hh j - 7)) j)) α)))), (ab, .inl (cI, 40, .inl (nF (r_open 545259519 β))))] := hD
      refine W.eq (g2 := F0 m 29 ls [.long (lN (r_must v0 (Tm j - Tm (m_anc P (Hh j - (Hh j - 7)) j)) α β)), .long b]) rfl ?_
      refine lc_eq (tgt := 36) hx hb dM_add_29 dM_add_30 (by decide) (fun c_30 => ?_) (fun c_30 => ?_)
      · skip
        refine lv_lload_n hx hb dM_add_36 rfl (lv_at hl 2 rfl) ?_
        refine lv_ldc2 (v := 4294967295) hx hb hown (hts (.constantLong RM 46 4294967295) (by decide +kernel)) dM_add_37 ?_
        refine lc_gt (tgt := 54) hx hb dM_add_40 dM_add_41 (by decide) (fun c_41 => ?_) (fun c_41 => ?_)
        · skip
          refine lv_bipush (v := (-4)) hx hb dM_add_54 (by decide) ?_
          exact rw_iret (w := [(o, .inr (3, [.int (nI mo), .int (nI n), .ref aP, .ref aH, .ref aT, .ref aB, .ref aZ, .ref aS, .ref aa, .ref ab, .ref ac, .ref aR])), (aP, .inl (cI, 300, .inl (pF P))), (aH, .inl (cI, 300, .inl (nF Hh))), (aT, .inl (cJ, 300, .inr (.inl Tm))), (aB, .inl (cJ, 300, .inr (.inl Bt))), (aa, .inl (cI, 40, .inl (nF (r_mustA v0 (Tm j - Tm (m_anc P (Hh j - (Hh j - 7)) j)) α)))), (ab, .inl (cI, 40, .inl (nF (r_open 545259519 β)))), (aZ, .inl (cZ, 300, .inl (nF Zb))), (aR, .inl (cJ, 11, .inr (.inl Rk)))]) hQ hx hb hr hlocks dM_add_56 (hP.sub [2, 3, 4, 5, 6, 7, 8, 0, 1] rfl) (hD.sub [2, 3, 4, 5, 6, 7, 8, 0, 1] (by decide) rfl) hS ⟨rfl, rfl⟩
        · skip
          exact absurd ht9 c_41
      · skip
        exact absurd hb9 c_30
    · skip
      rw [← nI_0] at c_16
      have c_16 : ¬ (Zb j) = 0 := n_ne c_16
      omega
  · skip
    rw [← nI_0] at c_5
    have c_5 : 1 = 0 := n_eq c_5 (by omega) (by omega)
    omega

abbrev rm_k_add_timeR : Room := { frames := 3, cells := 0, slots := 0, locals := 78 }
set_option maxRecDepth 100000 in
set_option maxHeartbeats 4000000 in
theorem k_add_timeR (l : Launch) (D : va_G) (cI cJ cZ : ClassId) (o : Nat) (mo : Nat) (n : Nat) (aP : Nat) (aH : Nat) (aT : Nat) (aB : Nat) (aZ : Nat) (aS : Nat) (aa : Nat) (ab : Nat) (ac : Nat) (aR : Nat) (P : Nat → Nat) (Hh : Nat → Nat) (Tm : Nat → Int64) (Bt : Nat → Int64) (α : Nat → Nat) (β : Nat → Nat) (Zb : Nat → Nat) (Rk : Nat → Int64) (j : Nat) (t : Int64) (b : Int64) (v0 : Nat) (hn3 : n ≤ 300) (hj : j < n) (hHj : Hh j < 300) (hz0 : Zb j = 0) (h8 : (Hh j + 1) % 8 = 0) (hbv : Bt j = lN v0) (hv0 : v0 < 4294967296) (hα8 : by8 α) (hβ8 : by8 β) (hb9 : b = lN (r_must v0 (Tm j - Tm (m_anc P (Hh j - (Hh j - 7)) j)) α β)) (ht8 : ¬ 4294967295 < t) (ht9 : ¬ (m_med P Tm 11 0 (j + 1) Rk).1 ((m_med P Tm 11 0 (j + 1) Rk).2 / 2) < t) (hpar : ∀ x : Nat, 0 < x → x < n → P x < x) (hH0 : Hh 0 = 0) (hHs : ∀ x : Nat, 0 < x → x < n → Hh x = Hh (P x) + 1) (hHb : ∀ x : Nat, x < n → Hh x < 300) : rw_C l yM_add wM_add rm_k_add_timeR D vwCl (gT cI cJ cZ) [.ref o, .int (nI j), .long t, .long b] [(o, .inr (3, [.int (nI mo), .int (nI n), .ref aP, .ref aH, .ref aT, .ref aB, .ref aZ, .ref aS, .ref aa, .ref ab, .ref ac, .ref aR])), (aP, .inl (cI, 300, .inl (pF P))), (aH, .inl (cI, 300, .inl (nF Hh))), (aT, .inl (cJ, 300, .inr (.inl Tm))), (aB, .inl (cJ, 300, .inr (.inl Bt))), (aa, .inl (cI, 40, .inl (nF α))), (ab, .inl (cI, 40, .inl (nF β))), (aZ, .inl (cZ, 300, .inl (nF Zb))), (aR, .inl (cJ, 11, .inr (.inl Rk)))] (fun v9 w9 => v9 = some (.int (-4)) ∧ w9 = [(o, .inr (3, [.int (nI mo), .int (nI n), .ref aP, .ref aH, .ref aT, .ref aB, .ref aZ, .ref aS, .ref aa, .ref ab, .ref ac, .ref aR])), (aP, .inl (cI, 300, .inl (pF P))), (aH, .inl (cI, 300, .inl (nF Hh))), (aT, .inl (cJ, 300, .inr (.inl Tm))), (aB, .inl (cJ, 300, .inr (.inl Bt))), (aa, .inl (cI, 40, .inl (nF (r_mustA v0 (Tm j - Tm (m_anc P (Hh j - (Hh j - 7)) j)) α)))), (ab, .inl (cI, 40, .inl (nF (r_open 545259519 β)))), (aZ, .inl (cZ, 300, .inl (nF Zb))), (aR, .inl (cJ, 11, .inr (.inl ((m_med P Tm 11 0 (j + 1) Rk).1))))]) 0 0 := by
  refine rw_of (cc := cM_add) (maxL := 6) (ret := some .int) (by decide) rfl (Nat.le_of_ble_eq_true rfl) ?_
  intro p e s m args below meth c Q A ls hx hb hr hml hown hts hlocks hin hK hP hD hA hl hQ
  have hS : va_S A s.heap s.heap [] := va_S.rf
  have hl : lv_has ls 6 [(0, .ref o), (1, .int (nI j)), (2, .long t), (4, .long b)] := hl
  have hown : s.vm.findClass RM = some m.cls := hown
  obtain ⟨H, hHe⟩ : ∃ H : Heap, H = s.heap := ⟨_, rfl⟩
  rw [← hHe] at hP
  have hS : va_S A s.heap H [] := by rw [hHe]; exact va_S.rf
  suffices h9 : W p l e rm_k_add_timeR s m args below meth c H [] 0 0 Q (F0 m 0 ls []) by rw [hHe] at h9; exact h9
  clear hHe
  refine lv_aload_n hx hb dM_add_0 rfl (lv_at hl 0 rfl) ?_
  refine lv_iload_n hx hb dM_add_1 rfl (lv_at hl 1 rfl) ?_
  refine ro_ki (va_runV (As := [.int (nI j)]) (rest := []) ⟨hx, hb, hml, hown, hts⟩ (k_isBlock_ok l D cI cJ cZ o mo n aP aH aT aB aZ aS aa ab ac aR j (by omega) (by omega)) (cwV 1 hts gM_add_M_isBlock_102 rfl rfl rfl (by decide +kernel) ⟨Nat.le_of_ble_eq_true rfl, Nat.le_of_ble_eq_true rfl⟩) (ro_preV (hP.sub [0] rfl) hK (va_recv hK hP (ci := 3) (q0 := 0) rfl rfl)) rfl rfl hl.1 rfl (lv_room (Nat.le_of_ble_eq_true rfl)) dM_add_2 ⟨Nat.le_of_ble_eq_true rfl, Nat.le_of_ble_eq_true rfl⟩) ?_
  refine lv_if_ne (tgt := 10) hx hb dM_add_5 (by decide) (fun c_5 => ?_) (fun c_5 => ?_)
  · skip
    rw [← nI_0] at c_5
    have c_5 : ¬ 1 = 0 := n_ne c_5
    refine lv_aload_n hx hb dM_add_10 rfl (lv_at hl 0 rfl) ?_
    refine va_get (D := D) (ci := 3) (v := .ref aZ) (C := RM) (T := TM) (N := 12) hx hb hts iM_add_M hown hK hP 0 rfl rfl 6 (by decide) (hts (.fieldLink RM 23 "TreeDeskModel" "bad" "[Z") (by decide +kernel)) (fun _ h9 => h9) rfl dM_add_11 ?_
    refine lv_iload_n hx hb dM_add_14 rfl (lv_at hl 1 rfl) ?_
    refine ar_zld (j := j) hx hb hK hP 7 2 rfl rfl dM_add_15 (by omega) (by omega) ?_
    refine tp_i (y := nI (Zb j)) rfl ?_
    refine lv_if_eq (tgt := 22) hx hb dM_add_16 (by decide) (fun c_16 => ?_) (fun c_16 => ?_)
    · skip
      rw [← nI_0] at c_16
      have c_16 : (Zb j) = 0 := n_eq c_16 (by omega) (by omega)
      refine lv_lload hx hb dM_add_22 (lv_at hl 3 rfl) ?_
      refine lv_aload_n hx hb dM_add_24 rfl (lv_at hl 0 rfl) ?_
      refine lv_iload_n hx hb dM_add_25 rfl (lv_at hl 1 rfl) ?_
      refine rw_k (wc := [(o, .inr (3, [.int (nI mo), .int (nI n), .ref aP, .ref aH, .ref aT, .ref aB, .ref aZ, .ref aS, .ref aa, .ref ab, .ref ac, .ref aR])), (aP, .inl (cI, 300, .inl (pF P))), (aH, .inl (cI, 300, .inl (nF Hh))), (aT, .inl (cJ, 300, .inr (.inl Tm))), (aB, .inl (cJ, 300, .inr (.inl Bt))), (aa, .inl (cI, 40, .inl (nF α))), (ab, .inl (cI, 40, .inl (nF β)))]) (wr := [(aZ, .inl (cZ, 300, .inl (nF Zb))), (aR, .inl (cJ, 11, .inr (.inl Rk)))]) (va_runV (As := [.int (nI j)]) (rest := [.long b]) ⟨hx, hb, hml, hown, hts⟩ (k_must_ret l D cI cJ cZ o mo n aP aH aT aB aZ aS aa ab ac aR P Hh Tm Bt α β j v0 (by omega) (by omega) h8 hbv hv0 hα8 hβ8 hpar hH0 hHs hHb H.size) (cwV 1 hts gM_add_M_must_122 rfl rfl rfl (by decide +kernel) ⟨Nat.le_of_ble_eq_true rfl, Nat.le_of_ble_eq_true rfl⟩) (rw_preV (hP.sub [0, 1, 2, 3, 4, 5, 6] rfl) hK (hD.sub [0, 1, 2, 3, 4, 5, 6] (by decide) rfl) (va_recv hK hP (ci := 3) (q0 := 0) rfl rfl)) rfl rfl hl.1 rfl (lv_room (Nat.le_of_ble_eq_true rfl)) dM_add_26 ⟨Nat.le_of_ble_eq_true rfl, Nat.le_of_ble_eq_true rfl⟩) hP hD hS hA [0, 1, 2, 3, 4, 5, 6] [7, 8] rfl rfl (by decide) (by decide) (fun v9 w9 H locs hp9 hP hD hS => ?_)
      obtain ⟨rfl, rfl⟩ := hp9
      have hP : va_P D vwCl [(aZ, .inl (cZ, 300, .inl (nF Zb))), (aR, .inl (cJ, 11, .inr (.inl Rk))), (o, .inr (3, [.int (nI mo), .int (nI n), .ref aP, .ref aH, .ref aT, .ref aB, .ref aZ, .ref aS, .ref aa, .ref ab, .ref ac, .ref aR])), (aP, .inl (cI, 300, .inl (pF P))), (aH, .inl (cI, 300, .inl (nF Hh))), (aT, .inl (cJ, 300, .inr (.inl Tm))), (aB, .inl (cJ, 300, .inr (.inl Bt))), (aa, .inl (cI, 40, .inl (nF (r_mustA v0 (Tm j - Tm (m_anc P (Hh j - (Hh j - 7)) j)) α)))), (ab, .inl (cI, 40, .inl (nF (r_open 545259519 β))))] H := hP
      have hD : va_D A [(aZ, .inl (cZ, 300, .inl (nF Zb))), (aR, .inl (cJ, 11, .inr (.inl Rk))), (o, .inr (3, [.int (nI mo), .int (nI n), .ref aP, .ref aH, .ref aT, .ref aB, .ref aZ, .ref aS, .ref aa, .ref ab, .ref ac, .ref aR])), (aP, .inl (cI, 300, .inl (pF P))), (aH, .inl (cI, 300, .inl (nF Hh))), (aT, .inl (cJ, 300, .inr (.inl Tm))), (aB, .inl (cJ, 300, .inr (.inl Bt))), (aa, .inl (cI, 40, .inl (nF (r_mustA v0 (Tm j - Tm (m_anc P (Hh j - (Hh j - 7)) j)) α)))), (ab, .inl (cI, 40, .inl (nF (r_open 545259519 β))))] := hD
      refine W.eq (g2 := F0 m 29 ls [.long (lN (r_must v0 (Tm j - Tm (m_anc P (Hh j - (Hh j - 7)) j)) α β)), .long b]) rfl ?_
      refine lc_eq (tgt := 36) hx hb dM_add_29 dM_add_30 (by decide) (fun c_30 => ?_) (fun c_30 => ?_)
      · skip
        refine lv_lload_n hx hb dM_add_36 rfl (lv_at hl 2 rfl) ?_
        refine lv_ldc2 (v := 4294967295) hx hb hown (hts (.constantLong RM 46 4294967295) (by decide +kernel)) dM_add_37 ?_
        refine lc_gt (tgt := 54) hx hb dM_add_40 dM_add_41 (by decide) (fun c_41 => ?_) (fun c_41 => ?_)
        · skip
          exact absurd c_41 ht8
        · skip
          refine lv_lload_n hx hb dM_add_44 rfl (lv_at hl 2 rfl) ?_
          refine lv_aload_n hx hb dM_add_45 rfl (lv_at hl 0 rfl) ?_
          refine lv_iload_n hx hb dM_add_46 rfl (lv_at hl 1 rfl) ?_
          refine rw_k (wc := [(o, .inr (3, [.int (nI mo), .int (nI n), .ref aP, .ref aH, .ref aT, .ref aB, .ref aZ, .ref aS, .ref aa, .ref ab, .ref ac, .ref aR])), (aP, .inl (cI, 300, .inl (pF P))), (aT, .inl (cJ, 300, .inr (.inl Tm))), (aR, .inl (cJ, 11, .inr (.inl Rk)))]) (wr := [(aZ, .inl (cZ, 300, .inl (nF Zb))), (aH, .inl (cI, 300, .inl (nF Hh))), (aB, .inl (cJ, 300, .inr (.inl Bt))), (aa, .inl (cI, 40, .inl (nF (r_mustA v0 (Tm j - Tm (m_anc P (Hh j - (Hh j - 7)) j)) α)))), (ab, .inl (cI, 40, .inl (nF (r_open 545259519 β))))]) (va_runV (As := [.int (nI j)]) (rest := [.long t]) ⟨hx, hb, hml, hown, hts⟩ (k_median l D cI cJ cZ o mo n aP aH aT aB aZ aS aa ab ac aR P Tm Rk j (by omega) (by omega) hpar H.size) (cwV 1 hts gM_add_M_median_126 rfl rfl rfl (by decide +kernel) ⟨Nat.le_of_ble_eq_true rfl, Nat.le_of_ble_eq_true rfl⟩) (rw_preV (hP.sub [2, 3, 5, 1] rfl) hK (hD.sub [2, 3, 5, 1] (by decide) rfl) (va_recv hK hP (ci := 3) (q0 := 2) rfl rfl)) rfl rfl hl.1 rfl (lv_room (Nat.le_of_ble_eq_true rfl)) dM_add_47 ⟨Nat.le_of_ble_eq_true rfl, Nat.le_of_ble_eq_true rfl⟩) hP hD hS hA [2, 3, 5, 1] [0, 4, 6, 7, 8] rfl rfl (by decide) (by decide) (fun v9 w9 H locs hp9 hP hD hS => ?_)
          obtain ⟨rfl, rfl⟩ := hp9
          have hP : va_P D vwCl [(aZ, .inl (cZ, 300, .inl (nF Zb))), (aH, .inl (cI, 300, .inl (nF Hh))), (aB, .inl (cJ, 300, .inr (.inl Bt))), (aa, .inl (cI, 40, .inl (nF (r_mustA v0 (Tm j - Tm (m_anc P (Hh j - (Hh j - 7)) j)) α)))), (ab, .inl (cI, 40, .inl (nF (r_open 545259519 β)))), (o, .inr (3, [.int (nI mo), .int (nI n), .ref aP, .ref aH, .ref aT, .ref aB, .ref aZ, .ref aS, .ref aa, .ref ab, .ref ac, .ref aR])), (aP, .inl (cI, 300, .inl (pF P))), (aT, .inl (cJ, 300, .inr (.inl Tm))), (aR, .inl (cJ, 11, .inr (.inl ((m_med P Tm 11 0 (j + 1) Rk).1))))] H := hP
          have hD : va_D A [(aZ, .inl (cZ, 300, .inl (nF Zb))), (aH, .inl (cI, 300, .inl (nF Hh))), (aB, .inl (cJ, 300, .inr (.inl Bt))), (aa, .inl (cI, 40, .inl (nF (r_mustA v0 (Tm j - Tm (m_anc P (Hh j - (Hh j - 7)) j)) α)))), (ab, .inl (cI, 40, .inl (nF (r_open 545259519 β)))), (o, .inr (3, [.int (nI mo), .int (nI n), .ref aP, .ref aH, .ref aT, .ref aB, .ref aZ, .ref aS, .ref aa, .ref ab, .ref ac, .ref aR])), (aP, .inl (cI, 300, .inl (pF P))), (aT, .inl (cJ, 300, .inr (.inl Tm))), (aR, .inl (cJ, 11, .inr (.inl ((m_med P Tm 11 0 (j + 1) Rk).1))))] := hD
          refine W.eq (g2 := F0 m 50 ls [.long ((m_med P Tm 11 0 (j + 1) Rk).1 ((m_med P Tm 11 0 (j + 1) Rk).2 / 2)), .long t]) rfl ?_
          refine lc_gt (tgt := 57) hx hb dM_add_50 dM_add_51 (by decide) (fun c_51 => ?_) (fun c_51 => ?_)
          · skip
            exact absurd c_51 ht9
          · skip
            refine lv_bipush (v := (-4)) hx hb dM_add_54 (by decide) ?_
            exact rw_iret (w := [(o, .inr (3, [.int (nI mo), .int (nI n), .ref aP, .ref aH, .ref aT, .ref aB, .ref aZ, .ref aS, .ref aa, .ref ab, .ref ac, .ref aR])), (aP, .inl (cI, 300, .inl (pF P))), (aH, .inl (cI, 300, .inl (nF Hh))), (aT, .inl (cJ, 300, .inr (.inl Tm))), (aB, .inl (cJ, 300, .inr (.inl Bt))), (aa, .inl (cI, 40, .inl (nF (r_mustA v0 (Tm j - Tm (m_anc P (Hh j - (Hh j - 7)) j)) α)))), (ab, .inl (cI, 40, .inl (nF (r_open 545259519 β)))), (aZ, .inl (cZ, 300, .inl (nF Zb))), (aR, .inl (cJ, 11, .inr (.inl ((m_med P Tm 11 0 (j + 1) Rk).1))))]) hQ hx hb hr hlocks dM_add_56 (hP.sub [5, 6, 1, 7, 2, 3, 4, 0, 8] rfl) (hD.sub [5, 6, 1, 7, 2, 3, 4, 0, 8] (by decide) rfl) hS ⟨rfl, rfl⟩
      · skip
        exact absurd hb9 c_30
    · skip
      rw [← nI_0] at c_16
      have c_16 : ¬ (Zb j) = 0 := n_ne c_16
      omega
  · skip
    rw [← nI_0] at c_5
    have c_5 : 1 = 0 := n_eq c_5 (by omega) (by omega)
    omega

abbrev rm_k_add_fullR : Room := { frames := 3, cells := 0, slots := 0, locals := 78 }
set_option maxRecDepth 100000 in
set_option maxHeartbeats 4000000 in
theorem k_add_fullR (l : Launch) (D : va_G) (cI cJ cZ : ClassId) (o : Nat) (mo : Nat) (n : Nat) (aP : Nat) (aH : Nat) (aT : Nat) (aB : Nat) (aZ : Nat) (aS : Nat) (aa : Nat) (ab : Nat) (ac : Nat) (aR : Nat) (P : Nat → Nat) (Hh : Nat → Nat) (Tm : Nat → Int64) (Bt : Nat → Int64) (α : Nat → Nat) (β : Nat → Nat) (Zb : Nat → Nat) (Rk : Nat → Int64) (j : Nat) (t : Int64) (b : Int64) (v0 : Nat) (hn3 : n ≤ 300) (hj : j < n) (hHj : Hh j < 300) (hz0 : Zb j = 0) (h8 : (Hh j + 1) % 8 = 0) (hbv : Bt j = lN v0) (hv0 : v0 < 4294967296) (hα8 : by8 α) (hβ8 : by8 β) (hb9 : b = lN (r_must v0 (Tm j - Tm (m_anc P (Hh j - (Hh j - 7)) j)) α β)) (ht8 : ¬ 4294967295 < t) (ht9 : (m_med P Tm 11 0 (j + 1) Rk).1 ((m_med P Tm 11 0 (j + 1) Rk).2 / 2) < t) (hfl : n = mo) (hpar : ∀ x : Nat, 0 < x → x < n → P x < x) (hH0 : Hh 0 = 0) (hHs : ∀ x : Nat, 0 < x → x < n → Hh x = Hh (P x) + 1) (hHb : ∀ x : Nat, x < n → Hh x < 300) : rw_C l yM_add wM_add rm_k_add_fullR D vwCl (gT cI cJ cZ) [.ref o, .int (nI j), .long t, .long b] [(o, .inr (3, [.int (nI mo), .int (nI n), .ref aP, .ref aH, .ref aT, .ref aB, .ref aZ, .ref aS, .ref aa, .ref ab, .ref ac, .ref aR])), (aP, .inl (cI, 300, .inl (pF P))), (aH, .inl (cI, 300, .inl (nF Hh))), (aT, .inl (cJ, 300, .inr (.inl Tm))), (aB, .inl (cJ, 300, .inr (.inl Bt))), (aa, .inl (cI, 40, .inl (nF α))), (ab, .inl (cI, 40, .inl (nF β))), (aZ, .inl (cZ, 300, .inl (nF Zb))), (aR, .inl (cJ, 11, .inr (.inl Rk)))] (fun v9 w9 => v9 = some (.int (-5)) ∧ w9 = [(o, .inr (3, [.int (nI mo), .int (nI n), .ref aP, .ref aH, .ref aT, .ref aB, .ref aZ, .ref aS, .ref aa, .ref ab, .ref ac, .ref aR])), (aP, .inl (cI, 300, .inl (pF P))), (aH, .inl (cI, 300, .inl (nF Hh))), (aT, .inl (cJ, 300, .inr (.inl Tm))), (aB, .inl (cJ, 300, .inr (.inl Bt))), (aa, .inl (cI, 40, .inl (nF (r_mustA v0 (Tm j - Tm (m_anc P (Hh j - (Hh j - 7)) j)) α)))), (ab, .inl (cI, 40, .inl (nF (r_open 545259519 β)))), (aZ, .inl (cZ, 300, .inl (nF Zb))), (aR, .inl (cJ, 11, .inr (.inl ((m_med P Tm 11 0 (j + 1) Rk).1))))]) 0 0 := by
  refine rw_of (cc := cM_add) (maxL := 6) (ret := some .int) (by decide) rfl (Nat.le_of_ble_eq_true rfl) ?_
  intro p e s m args below meth c Q A ls hx hb hr hml hown hts hlocks hin hK hP hD hA hl hQ
  have hS : va_S A s.heap s.heap [] := va_S.rf
  have hl : lv_has ls 6 [(0, .ref o), (1, .int (nI j)), (2, .long t), (4, .long b)] := hl
  have hown : s.vm.findClass RM = some m.cls := hown
  obtain ⟨H, hHe⟩ : ∃ H : Heap, H = s.heap := ⟨_, rfl⟩
  rw [← hHe] at hP
  have hS : va_S A s.heap H [] := by rw [hHe]; exact va_S.rf
  suffices h9 : W p l e rm_k_add_fullR s m args below meth c H [] 0 0 Q (F0 m 0 ls []) by rw [hHe] at h9; exact h9
  clear hHe
  refine lv_aload_n hx hb dM_add_0 rfl (lv_at hl 0 rfl) ?_
  refine lv_iload_n hx hb dM_add_1 rfl (lv_at hl 1 rfl) ?_
  refine ro_ki (va_runV (As := [.int (nI j)]) (rest := []) ⟨hx, hb, hml, hown, hts⟩ (k_isBlock_ok l D cI cJ cZ o mo n aP aH aT aB aZ aS aa ab ac aR j (by omega) (by omega)) (cwV 1 hts gM_add_M_isBlock_102 rfl rfl rfl (by decide +kernel) ⟨Nat.le_of_ble_eq_true rfl, Nat.le_of_ble_eq_true rfl⟩) (ro_preV (hP.sub [0] rfl) hK (va_recv hK hP (ci := 3) (q0 := 0) rfl rfl)) rfl rfl hl.1 rfl (lv_room (Nat.le_of_ble_eq_true rfl)) dM_add_2 ⟨Nat.le_of_ble_eq_true rfl, Nat.le_of_ble_eq_true rfl⟩) ?_
  refine lv_if_ne (tgt := 10) hx hb dM_add_5 (by decide) (fun c_5 => ?_) (fun c_5 => ?_)
  · skip
    rw [← nI_0] at c_5
    have c_5 : ¬ 1 = 0 := n_ne c_5
    refine lv_aload_n hx hb dM_add_10 rfl (lv_at hl 0 rfl) ?_
    refine va_get (D := D) (ci := 3) (v := .ref aZ) (C := RM) (T := TM) (N := 12) hx hb hts iM_add_M hown hK hP 0 rfl rfl 6 (by decide) (hts (.fieldLink RM 23 "TreeDeskModel" "bad" "[Z") (by decide +kernel)) (fun _ h9 => h9) rfl dM_add_11 ?_
    refine lv_iload_n hx hb dM_add_14 rfl (lv_at hl 1 rfl) ?_
    refine ar_zld (j := j) hx hb hK hP 7 2 rfl rfl dM_add_15 (by omega) (by omega) ?_
    refine tp_i (y := nI (Zb j)) rfl ?_
    refine lv_if_eq (tgt := 22) hx hb dM_add_16 (by decide) (fun c_16 => ?_) (fun c_16 => ?_)
    · skip
      rw [← nI_0] at c_16
      have c_16 : (Zb j) = 0 := n_eq c_16 (by omega) (by omega)
      refine lv_lload hx hb dM_add_22 (lv_at hl 3 rfl) ?_
      refine lv_aload_n hx hb dM_add_24 rfl (lv_at hl 0 rfl) ?_
      refine lv_iload_n hx hb dM_add_25 rfl (lv_at hl 1 rfl) ?_
      refine rw_k (wc := [(o, .inr (3, [.int (nI mo), .int (nI n), .ref aP, .ref aH, .ref aT, .ref aB, .ref aZ, .ref aS, .ref aa, .ref ab, .ref ac, .ref aR])), (aP, .inl (cI, 300, .inl (pF P))), (aH, .inl (cI, 300, .inl (nF Hh))), (aT, .inl (cJ, 300, .inr (.inl Tm))), (aB, .inl (cJ, 300, .inr (.inl Bt))), (aa, .inl (cI, 40, .inl (nF α))), (ab, .inl (cI, 40, .inl (nF β)))]) (wr := [(aZ, .inl (cZ, 300, .inl (nF Zb))), (aR, .inl (cJ, 11, .inr (.inl Rk)))]) (va_runV (As := [.int (nI j)]) (rest := [.long b]) ⟨hx, hb, hml, hown, hts⟩ (k_must_ret l D cI cJ cZ o mo n aP aH aT aB aZ aS aa ab ac aR P Hh Tm Bt α β j v0 (by omega) (by omega) h8 hbv hv0 hα8 hβ8 hpar hH0 hHs hHb H.size) (cwV 1 hts gM_add_M_must_122 rfl rfl rfl (by decide +kernel) ⟨Nat.le_of_ble_eq_true rfl, Nat.le_of_ble_eq_true rfl⟩) (rw_preV (hP.sub [0, 1, 2, 3, 4, 5, 6] rfl) hK (hD.sub [0, 1, 2, 3, 4, 5, 6] (by decide) rfl) (va_recv hK hP (ci := 3) (q0 := 0) rfl rfl)) rfl rfl hl.1 rfl (lv_room (Nat.le_of_ble_eq_true rfl)) dM_add_26 ⟨Nat.le_of_ble_eq_true rfl, Nat.le_of_ble_eq_true rfl⟩) hP hD hS hA [0, 1, 2, 3, 4, 5, 6] [7, 8] rfl rfl (by decide) (by decide) (fun v9 w9 H locs hp9 hP hD hS => ?_)
      obtain ⟨rfl, rfl⟩ := hp9
      have hP : va_P D vwCl [(aZ, .inl (cZ, 300, .inl (nF Zb))), (aR, .inl (cJ, 11, .inr (.inl Rk))), (o, .inr (3, [.int (nI mo), .int (nI n), .ref aP, .ref aH, .ref aT, .ref aB, .ref aZ, .ref aS, .ref aa, .ref ab, .ref ac, .ref aR])), (aP, .inl (cI, 300, .inl (pF P))), (aH, .inl (cI, 300, .inl (nF Hh))), (aT, .inl (cJ, 300, .inr (.inl Tm))), (aB, .inl (cJ, 300, .inr (.inl Bt))), (aa, .inl (cI, 40, .inl (nF (r_mustA v0 (Tm j - Tm (m_anc P (Hh j - (Hh j - 7)) j)) α)))), (ab, .inl (cI, 40, .inl (nF (r_open 545259519 β))))] H := hP
      have hD : va_D A [(aZ, .inl (cZ, 300, .inl (nF Zb))), (aR, .inl (cJ, 11, .inr (.inl Rk))), (o, .inr (3, [.int (nI mo), .int (nI n), .ref aP, .ref aH, .ref aT, .ref aB, .ref aZ, .ref aS, .ref aa, .ref ab, .ref ac, .ref aR])), (aP, .inl (cI, 300, .inl (pF P))), (aH, .inl (cI, 300, .inl (nF Hh))), (aT, .inl (cJ, 300, .inr (.inl Tm))), (aB, .inl (cJ, 300, .inr (.inl Bt))), (aa, .inl (cI, 40, .inl (nF (r_mustA v0 (Tm j - Tm (m_anc P (Hh j - (Hh j - 7)) j)) α)))), (ab, .inl (cI, 40, .inl (nF (r_open 545259519 β))))] := hD
      refine W.eq (g2 := F0 m 29 ls [.long (lN (r_must v0 (Tm j - Tm (m_anc P (Hh j - (Hh j - 7)) j)) α β)), .long b]) rfl ?_
      refine lc_eq (tgt := 36) hx hb dM_add_29 dM_add_30 (by decide) (fun c_30 => ?_) (fun c_30 => ?_)
      · skip
        refine lv_lload_n hx hb dM_add_36 rfl (lv_at hl 2 rfl) ?_
        refine lv_ldc2 (v := 4294967295) hx hb hown (hts (.constantLong RM 46 4294967295) (by decide +kernel)) dM_add_37 ?_
        refine lc_gt (tgt := 54) hx hb dM_add_40 dM_add_41 (by decide) (fun c_41 => ?_) (fun c_41 => ?_)
        · skip
          exact absurd c_41 ht8
        · skip
          refine lv_lload_n hx hb dM_add_44 rfl (lv_at hl 2 rfl) ?_
          refine lv_aload_n hx hb dM_add_45 rfl (lv_at hl 0 rfl) ?_
          refine lv_iload_n hx hb dM_add_46 rfl (lv_at hl 1 rfl) ?_
          refine rw_k (wc := [(o, .inr (3, [.int (nI mo), .int (nI n), .ref aP, .ref aH, .ref aT, .ref aB, .ref aZ, .ref aS, .ref aa, .ref ab, .ref ac, .ref aR])), (aP, .inl (cI, 300, .inl (pF P))), (aT, .inl (cJ, 300, .inr (.inl Tm))), (aR, .inl (cJ, 11, .inr (.inl Rk)))]) (wr := [(aZ, .inl (cZ, 300, .inl (nF Zb))), (aH, .inl (cI, 300, .inl (nF Hh))), (aB, .inl (cJ, 300, .inr (.inl Bt))), (aa, .inl (cI, 40, .inl (nF (r_mustA v0 (Tm j - Tm (m_anc P (Hh j - (Hh j - 7)) j)) α)))), (ab, .inl (cI, 40, .inl (nF (r_open 545259519 β))))]) (va_runV (As := [.int (nI j)]) (rest := [.long t]) ⟨hx, hb, hml, hown, hts⟩ (k_median l D cI cJ cZ o mo n aP aH aT aB aZ aS aa ab ac aR P Tm Rk j (by omega) (by omega) hpar H.size) (cwV 1 hts gM_add_M_median_126 rfl rfl rfl (by decide +kernel) ⟨Nat.le_of_ble_eq_true rfl, Nat.le_of_ble_eq_true rfl⟩) (rw_preV (hP.sub [2, 3, 5, 1] rfl) hK (hD.sub [2, 3, 5, 1] (by decide) rfl) (va_recv hK hP (ci := 3) (q0 := 2) rfl rfl)) rfl rfl hl.1 rfl (lv_room (Nat.le_of_ble_eq_true rfl)) dM_add_47 ⟨Nat.le_of_ble_eq_true rfl, Nat.le_of_ble_eq_true rfl⟩) hP hD hS hA [2, 3, 5, 1] [0, 4, 6, 7, 8] rfl rfl (by decide) (by decide) (fun v9 w9 H locs hp9 hP hD hS => ?_)
          obtain ⟨rfl, rfl⟩ := hp9
          have hP : va_P D vwCl [(aZ, .inl (cZ, 300, .inl (nF Zb))), (aH, .inl (cI, 300, .inl (nF Hh))), (aB, .inl (cJ, 300, .inr (.inl Bt))), (aa, .inl (cI, 40, .inl (nF (r_mustA v0 (Tm j - Tm (m_anc P (Hh j - (Hh j - 7)) j)) α)))), (ab, .inl (cI, 40, .inl (nF (r_open 545259519 β)))), (o, .inr (3, [.int (nI mo), .int (nI n), .ref aP, .ref aH, .ref aT, .ref aB, .ref aZ, .ref aS, .ref aa, .ref ab, .ref ac, .ref aR])), (aP, .inl (cI, 300, .inl (pF P))), (aT, .inl (cJ, 300, .inr (.inl Tm))), (aR, .inl (cJ, 11, .inr (.inl ((m_med P Tm 11 0 (j + 1) Rk).1))))] H := hP
          have hD : va_D A [(aZ, .inl (cZ, 300, .inl (nF Zb))), (aH, .inl (cI, 300, .inl (nF Hh))), (aB, .inl (cJ, 300, .inr (.inl Bt))), (aa, .inl (cI, 40, .inl (nF (r_mustA v0 (Tm j - Tm (m_anc P (Hh j - (Hh j - 7)) j)) α)))), (ab, .inl (cI, 40, .inl (nF (r_open 545259519 β)))), (o, .inr (3, [.int (nI mo), .int (nI n), .ref aP, .ref aH, .ref aT, .ref aB, .ref aZ, .ref aS, .ref aa, .ref ab, .ref ac, .ref aR])), (aP, .inl (cI, 300, .inl (pF P))), (aT, .inl (cJ, 300, .inr (.inl Tm))), (aR, .inl (cJ, 11, .inr (.inl ((m_med P Tm 11 0 (j + 1) Rk).1))))] := hD
          refine W.eq (g2 := F0 m 50 ls [.long ((m_med P Tm 11 0 (j + 1) Rk).1 ((m_med P Tm 11 0 (j + 1) Rk).2 / 2)), .long t]) rfl ?_
          refine lc_gt (tgt := 57) hx hb dM_add_50 dM_add_51 (by decide) (fun c_51 => ?_) (fun c_51 => ?_)
          · skip
            refine lv_aload_n hx hb dM_add_57 rfl (lv_at hl 0 rfl) ?_
            refine va_get (D := D) (ci := 3) (v := .int (nI n)) (C := RM) (T := TM) (N := 12) hx hb hts iM_add_M hown hK hP 5 rfl rfl 1 (by decide) (hts (.fieldLink RM 54 "TreeDeskModel" "many" "I") (by decide +kernel)) (fun _ h9 => h9) rfl dM_add_58 ?_
            refine lv_aload_n hx hb dM_add_61 rfl (lv_at hl 0 rfl) ?_
            refine va_get (D := D) (ci := 3) (v := .int (nI mo)) (C := RM) (T := TM) (N := 12) hx hb hts iM_add_M hown hK hP 5 rfl rfl 0 (by decide) (hts (.fieldLink RM 42 "TreeDeskModel" "most" "I") (by decide +kernel)) (fun _ h9 => h9) rfl dM_add_62 ?_
            refine lv_icmp_ne (tgt := 71) hx hb dM_add_65 (by decide) (fun c_65 => ?_) (fun c_65 => ?_)
            · skip
              have c_65 : ¬ n = mo := n_ne c_65
              omega
            · skip
              have c_65 : n = mo := n_eq c_65 (by omega) (by omega)
              refine lv_bipush (v := (-5)) hx hb dM_add_68 (by decide) ?_
              exact rw_iret (w := [(o, .inr (3, [.int (nI mo), .int (nI n), .ref aP, .ref aH, .ref aT, .ref aB, .ref aZ, .ref aS, .ref aa, .ref ab, .ref ac, .ref aR])), (aP, .inl (cI, 300, .inl (pF P))), (aH, .inl (cI, 300, .inl (nF Hh))), (aT, .inl (cJ, 300, .inr (.inl Tm))), (aB, .inl (cJ, 300, .inr (.inl Bt))), (aa, .inl (cI, 40, .inl (nF (r_mustA v0 (Tm j - Tm (m_anc P (Hh j - (Hh j - 7)) j)) α)))), (ab, .inl (cI, 40, .inl (nF (r_open 545259519 β)))), (aZ, .inl (cZ, 300, .inl (nF Zb))), (aR, .inl (cJ, 11, .inr (.inl ((m_med P Tm 11 0 (j + 1) Rk).1))))]) hQ hx hb hr hlocks dM_add_70 (hP.sub [5, 6, 1, 7, 2, 3, 4, 0, 8] rfl) (hD.sub [5, 6, 1, 7, 2, 3, 4, 0, 8] (by decide) rfl) hS ⟨rfl, rfl⟩
          · skip
            exact absurd ht9 c_51
      · skip
        exact absurd hb9 c_30
    · skip
      rw [← nI_0] at c_16
      have c_16 : ¬ (Zb j) = 0 := n_ne c_16
      omega
  · skip
    rw [← nI_0] at c_5
    have c_5 : 1 = 0 := n_eq c_5 (by omega) (by omega)
    omega

abbrev rm_k_add_okS : Room := { frames := 3, cells := 0, slots := 0, locals := 78 }
set_option maxRecDepth 100000 in
set_option maxHeartbeats 4000000 in
theorem k_add_okS (l : Launch) (D : va_G) (cI cJ cZ : ClassId) (o : Nat) (mo : Nat) (n : Nat) (aP : Nat) (aH : Nat) (aT : Nat) (aB : Nat) (aZ : Nat) (aS : Nat) (aa : Nat) (ab : Nat) (ac : Nat) (aR : Nat) (P : Nat → Nat) (Hh : Nat → Nat) (Tm : Nat → Int64) (Bt : Nat → Int64) (Zb : Nat → Nat) (Sm : Nat → Nat) (α : Nat → Nat) (β : Nat → Nat) (γ : Nat → Nat) (Rk : Nat → Int64) (j : Nat) (t : Int64) (v : Nat) (hn0 : 0 < n) (hn3 : n < 300) (hnm : ¬ n = mo) (hmo : mo ≤ 300) (hj : j < n) (hHj : Hh j < 300) (hv : v < 4294967296) (hz0 : Zb j = 0) (h8 : ¬ (Hh j + 1) % 8 = 0) (hα8 : by8 α) (hβ8 : by8 β) (hγ8 : by8 γ) (hS8 : by8 Sm) (hb9 : lN v = Bt j) (ht8 : ¬ 4294967295 < t) (ht9 : (m_med P Tm 11 0 (j + 1) Rk).1 ((m_med P Tm 11 0 (j + 1) Rk).2 / 2) < t) (hpar : ∀ x : Nat, 0 < x → x < n → P x < x) : rw_C l yM_add wM_add rm_k_add_okS D vwCl (gT cI cJ cZ) [.ref o, .int (nI j), .long t, .long (lN v)] [(o, .inr (3, [.int (nI mo), .int (nI n), .ref aP, .ref aH, .ref aT, .ref aB, .ref aZ, .ref aS, .ref aa, .ref ab, .ref ac, .ref aR])), (aP, .inl (cI, 300, .inl (pF P))), (aH, .inl (cI, 300, .inl (nF Hh))), (aT, .inl (cJ, 300, .inr (.inl Tm))), (aB, .inl (cJ, 300, .inr (.inl Bt))), (aZ, .inl (cZ, 300, .inl (nF Zb))), (aS, .inl (cI, 12000, .inl (nF Sm))), (aa, .inl (cI, 40, .inl (nF α))), (ab, .inl (cI, 40, .inl (nF β))), (ac, .inl (cI, 40, .inl (nF γ))), (aR, .inl (cJ, 11, .inr (.inl Rk)))] (fun v9 w9 => v9 = some (.int (nI n)) ∧ w9 = [(o, .inr (3, [.int (nI mo), .int (nI (n + 1)), .ref aP, .ref aH, .ref aT, .ref aB, .ref aZ, .ref aS, .ref aa, .ref ab, .ref ac, .ref aR])), (aP, .inl (cI, 300, .inl (pF (updN P n j)))), (aH, .inl (cI, 300, .inl (nF (updN Hh n (Hh j + 1))))), (aT, .inl (cJ, 300, .inr (.inl (vp_updL Tm n t)))), (aB, .inl (cJ, 300, .inr (.inl (vp_updL Bt n (lN v))))), (aZ, .inl (cZ, 300, .inl (nF (updN Zb n 0)))), (aS, .inl (cI, 12000, .inl (nF (r_sumL (r_quo (r_open v α) β γ).1 n j 40 0 0 Sm)))), (aa, .inl (cI, 40, .inl (nF ((r_quo (r_open v α) β γ).1)))), (ab, .inl (cI, 40, .inl (nF (r_inc (r_open v α) β)))), (ac, .inl (cI, 40, .inl (nF ((r_quo (r_open v α) β γ).2)))), (aR, .inl (cJ, 11, .inr (.inl ((m_med P Tm 11 0 (j + 1) Rk).1))))]) 0 0 := by
  refine rw_of (cc := cM_add) (maxL := 6) (ret := some .int) (by decide) rfl (Nat.le_of_ble_eq_true rfl) ?_
  intro p e s m args below meth c Q A ls hx hb hr hml hown hts hlocks hin hK hP hD hA hl hQ
  have hS : va_S A s.heap s.heap [] := va_S.rf
  have hl : lv_has ls 6 [(0, .ref o), (1, .int (nI j)), (2, .long t), (4, .long (lN v))] := hl
  have hown : s.vm.findClass RM = some m.cls := hown
  obtain ⟨H, hHe⟩ : ∃ H : Heap, H = s.heap := ⟨_, rfl⟩
  rw [← hHe] at hP
  have hS : va_S A s.heap H [] := by rw [hHe]; exact va_S.rf
  suffices h9 : W p l e rm_k_add_okS s m args below meth c H [] 0 0 Q (F0 m 0 ls []) by rw [hHe] at h9; exact h9
  clear hHe
  refine lv_aload_n hx hb dM_add_0 rfl (lv_at hl 0 rfl) ?_
  refine lv_iload_n hx hb dM_add_1 rfl (lv_at hl 1 rfl) ?_
  refine ro_ki (va_runV (As := [.int (nI j)]) (rest := []) ⟨hx, hb, hml, hown, hts⟩ (k_isBlock_ok l D cI cJ cZ o mo n aP aH aT aB aZ aS aa ab ac aR j (by omega) (by omega)) (cwV 1 hts gM_add_M_isBlock_102 rfl rfl rfl (by decide +kernel) ⟨Nat.le_of_ble_eq_true rfl, Nat.le_of_ble_eq_true rfl⟩) (ro_preV (hP.sub [0] rfl) hK (va_recv hK hP (ci := 3) (q0 := 0) rfl rfl)) rfl rfl hl.1 rfl (lv_room (Nat.le_of_ble_eq_true rfl)) dM_add_2 ⟨Nat.le_of_ble_eq_true rfl, Nat.le_of_ble_eq_true rfl⟩) ?_
  refine lv_if_ne (tgt := 10) hx hb dM_add_5 (by decide) (fun c_5 => ?_) (fun c_5 => ?_)
  · skip
    rw [← nI_0] at c_5
    have c_5 : ¬ 1 = 0 := n_ne c_5
    refine lv_aload_n hx hb dM_add_10 rfl (lv_at hl 0 rfl) ?_
    refine va_get (D := D) (ci := 3) (v := .ref aZ) (C := RM) (T := TM) (N := 12) hx hb hts iM_add_M hown hK hP 0 rfl rfl 6 (by decide) (hts (.fieldLink RM 23 "TreeDeskModel" "bad" "[Z") (by decide +kernel)) (fun _ h9 => h9) rfl dM_add_11 ?_
    refine lv_iload_n hx hb dM_add_14 rfl (lv_at hl 1 rfl) ?_
    refine ar_zld (j := j) hx hb hK hP 5 2 rfl rfl dM_add_15 (by omega) (by omega) ?_
    refine tp_i (y := nI (Zb j)) rfl ?_
    refine lv_if_eq (tgt := 22) hx hb dM_add_16 (by decide) (fun c_16 => ?_) (fun c_16 => ?_)
    · skip
      rw [← nI_0] at c_16
      have c_16 : (Zb j) = 0 := n_eq c_16 (by omega) (by omega)
      refine lv_lload hx hb dM_add_22 (lv_at hl 3 rfl) ?_
      refine lv_aload_n hx hb dM_add_24 rfl (lv_at hl 0 rfl) ?_
      refine lv_iload_n hx hb dM_add_25 rfl (lv_at hl 1 rfl) ?_
      refine ro_kl (va_runV (As := [.int (nI j)]) (rest := [.long (lN v)]) ⟨hx, hb, hml, hown, hts⟩ (k_must_same l D cI cJ cZ o mo n aP aH aT aB aZ aS aa ab ac aR Hh Bt j (by omega) (by omega) (by omega) h8) (cwV 1 hts gM_add_M_must_122 rfl rfl rfl (by decide +kernel) ⟨Nat.le_of_ble_eq_true rfl, Nat.le_of_ble_eq_true rfl⟩) (ro_preV (hP.sub [0, 2, 4] rfl) hK (va_recv hK hP (ci := 3) (q0 := 0) rfl rfl)) rfl rfl hl.1 rfl (lv_room (Nat.le_of_ble_eq_true rfl)) dM_add_26 ⟨Nat.le_of_ble_eq_true rfl, Nat.le_of_ble_eq_true rfl⟩) ?_
      refine lc_eq (tgt := 36) hx hb dM_add_29 dM_add_30 (by decide) (fun c_30 => ?_) (fun c_30 => ?_)
      · skip
        refine lv_lload_n hx hb dM_add_36 rfl (lv_at hl 2 rfl) ?_
        refine lv_ldc2 (v := 4294967295) hx hb hown (hts (.constantLong RM 46 4294967295) (by decide +kernel)) dM_add_37 ?_
        refine lc_gt (tgt := 54) hx hb dM_add_40 dM_add_41 (by decide) (fun c_41 => ?_) (fun c_41 => ?_)
        · skip
          exact absurd c_41 ht8
        · skip
          refine lv_lload_n hx hb dM_add_44 rfl (lv_at hl 2 rfl) ?_
          refine lv_aload_n hx hb dM_add_45 rfl (lv_at hl 0 rfl) ?_
          refine lv_iload_n hx hb dM_add_46 rfl (lv_at hl 1 rfl) ?_
          refine rw_k (wc := [(o, .inr (3, [.int (nI mo), .int (nI n), .ref aP, .ref aH, .ref aT, .ref aB, .ref aZ, .ref aS, .ref aa, .ref ab, .ref ac, .ref aR])), (aP, .inl (cI, 300, .inl (pF P))), (aT, .inl (cJ, 300, .inr (.inl Tm))), (aR, .inl (cJ, 11, .inr (.inl Rk)))]) (wr := [(aH, .inl (cI, 300, .inl (nF Hh))), (aB, .inl (cJ, 300, .inr (.inl Bt))), (aZ, .inl (cZ, 300, .inl (nF Zb))), (aS, .inl (cI, 12000, .inl (nF Sm))), (aa, .inl (cI, 40, .inl (nF α))), (ab, .inl (cI, 40, .inl (nF β))), (ac, .inl (cI, 40, .inl (nF γ)))]) (va_runV (As := [.int (nI j)]) (rest := [.long t]) ⟨hx, hb, hml, hown, hts⟩ (k_median l D cI cJ cZ o mo n aP aH aT aB aZ aS aa ab ac aR P Tm Rk j (by omega) (by omega) hpar H.size) (cwV 1 hts gM_add_M_median_126 rfl rfl rfl (by decide +kernel) ⟨Nat.le_of_ble_eq_true rfl, Nat.le_of_ble_eq_true rfl⟩) (rw_preV (hP.sub [0, 1, 3, 10] rfl) hK (hD.sub [0, 1, 3, 10] (by decide) rfl) (va_recv hK hP (ci := 3) (q0 := 0) rfl rfl)) rfl rfl hl.1 rfl (lv_room (Nat.le_of_ble_eq_true rfl)) dM_add_47 ⟨Nat.le_of_ble_eq_true rfl, Nat.le_of_ble_eq_true rfl⟩) hP hD hS hA [0, 1, 3, 10] [2, 4, 5, 6, 7, 8, 9] rfl rfl (by decide) (by decide) (fun v9 w9 H locs hp9 hP hD hS => ?_)
          obtain ⟨rfl, rfl⟩ := hp9
          have hP : va_P D vwCl [(aH, .inl (cI, 300, .inl (nF Hh))), (aB, .inl (cJ, 300, .inr (.inl Bt))), (aZ, .inl (cZ, 300, .inl (nF Zb))), (aS, .inl (cI, 12000, .inl (nF Sm))), (aa, .inl (cI, 40, .inl (nF α))), (ab, .inl (cI, 40, .inl (nF β))), (ac, .inl (cI, 40, .inl (nF γ))), (o, .inr (3, [.int (nI mo), .int (nI n), .ref aP, .ref aH, .ref aT, .ref aB, .ref aZ, .ref aS, .ref aa, .ref ab, .ref ac, .ref aR])), (aP, .inl (cI, 300, .inl (pF P))), (aT, .inl (cJ, 300, .inr (.inl Tm))), (aR, .inl (cJ, 11, .inr (.inl ((m_med P Tm 11 0 (j + 1) Rk).1))))] H := hP
          have hD : va_D A [(aH, .inl (cI, 300, .inl (nF Hh))), (aB, .inl (cJ, 300, .inr (.inl Bt))), (aZ, .inl (cZ, 300, .inl (nF Zb))), (aS, .inl (cI, 12000, .inl (nF Sm))), (aa, .inl (cI, 40, .inl (nF α))), (ab, .inl (cI, 40, .inl (nF β))), (ac, .inl (cI, 40, .inl (nF γ))), (o, .inr (3, [.int (nI mo), .int (nI n), .ref aP, .ref aH, .ref aT, .ref aB, .ref aZ, .ref aS, .ref aa, .ref ab, .ref ac, .ref aR])), (aP, .inl (cI, 300, .inl (pF P))), (aT, .inl (cJ, 300, .inr (.inl Tm))), (aR, .inl (cJ, 11, .inr (.inl ((m_med P Tm 11 0 (j + 1) Rk).1))))] := hD
          refine W.eq (g2 := F0 m 50 ls [.long ((m_med P Tm 11 0 (j + 1) Rk).1 ((m_med P Tm 11 0 (j + 1) Rk).2 / 2)), .long t]) rfl ?_
          refine lc_gt (tgt := 57) hx hb dM_add_50 dM_add_51 (by decide) (fun c_51 => ?_) (fun c_51 => ?_)
          · skip
            refine lv_aload_n hx hb dM_add_57 rfl (lv_at hl 0 rfl) ?_
            refine va_get (D := D) (ci := 3) (v := .int (nI n)) (C := RM) (T := TM) (N := 12) hx hb hts iM_add_M hown hK hP 7 rfl rfl 1 (by decide) (hts (.fieldLink RM 54 "TreeDeskModel" "many" "I") (by decide +kernel)) (fun _ h9 => h9) rfl dM_add_58 ?_
            refine lv_aload_n hx hb dM_add_61 rfl (lv_at hl 0 rfl) ?_
            refine va_get (D := D) (ci := 3) (v := .int (nI mo)) (C := RM) (T := TM) (N := 12) hx hb hts iM_add_M hown hK hP 7 rfl rfl 0 (by decide) (hts (.fieldLink RM 42 "TreeDeskModel" "most" "I") (by decide +kernel)) (fun _ h9 => h9) rfl dM_add_62 ?_
            refine lv_icmp_ne (tgt := 71) hx hb dM_add_65 (by decide) (fun c_65 => ?_) (fun c_65 => ?_)
            · skip
              have c_65 : ¬ n = mo := n_ne c_65
              refine lv_aload_n hx hb dM_add_71 rfl (lv_at hl 0 rfl) ?_
              refine lv_iload_n hx hb dM_add_72 rfl (lv_at hl 1 rfl) ?_
              refine lv_lload_n hx hb dM_add_73 rfl (lv_at hl 2 rfl) ?_
              refine lv_lload hx hb dM_add_74 (lv_at hl 3 rfl) ?_
              refine rw_k (wc := [(o, .inr (3, [.int (nI mo), .int (nI n), .ref aP, .ref aH, .ref aT, .ref aB, .ref aZ, .ref aS, .ref aa, .ref ab, .ref ac, .ref aR])), (aP, .inl (cI, 300, .inl (pF P))), (aH, .inl (cI, 300, .inl (nF Hh))), (aT, .inl (cJ, 300, .inr (.inl Tm))), (aB, .inl (cJ, 300, .inr (.inl Bt))), (aZ, .inl (cZ, 300, .inl (nF Zb))), (aS, .inl (cI, 12000, .inl (nF Sm))), (aa, .inl (cI, 40, .inl (nF α))), (ab, .inl (cI, 40, .inl (nF β))), (ac, .inl (cI, 40, .inl (nF γ)))]) (wr := [(aR, .inl (cJ, 11, .inr (.inl ((m_med P Tm 11 0 (j + 1) Rk).1))))]) (va_runV (As := [.int (nI j), .long t, .long (lN v)]) (rest := []) ⟨hx, hb, hml, hown, hts⟩ (k_join l D cI cJ cZ o mo n aP aH aT aB aZ aS aa ab ac aR P Hh Tm Bt Zb Sm α β γ j t v (by omega) (by omega) (by omega) (by omega) hv hα8 hβ8 hγ8 hS8 H.size) (cwV 3 hts gM_add_M_join_50 rfl rfl rfl (by decide +kernel) ⟨Nat.le_of_ble_eq_true rfl, Nat.le_of_ble_eq_true rfl⟩) (rw_preV (hP.sub [7, 8, 0, 9, 1, 2, 3, 4, 5, 6] rfl) hK (hD.sub [7, 8, 0, 9, 1, 2, 3, 4, 5, 6] (by decide) rfl) (va_recv hK hP (ci := 3) (q0 := 7) rfl rfl)) rfl rfl hl.1 rfl (lv_room (Nat.le_of_ble_eq_true rfl)) dM_add_76 ⟨Nat.le_of_ble_eq_true rfl, Nat.le_of_ble_eq_true rfl⟩) hP hD hS hA [7, 8, 0, 9, 1, 2, 3, 4, 5, 6] [10] rfl rfl (by decide) (by decide) (fun v9 w9 H locs hp9 hP hD hS => ?_)
              obtain ⟨rfl, rfl⟩ := hp9
              have hP : va_P D vwCl [(aR, .inl (cJ, 11, .inr (.inl ((m_med P Tm 11 0 (j + 1) Rk).1)))), (o, .inr (3, [.int (nI mo), .int (nI (n + 1)), .ref aP, .ref aH, .ref aT, .ref aB, .ref aZ, .ref aS, .ref aa, .ref ab, .ref ac, .ref aR])), (aP, .inl (cI, 300, .inl (pF (updN P n j)))), (aH, .inl (cI, 300, .inl (nF (updN Hh n (Hh j + 1))))), (aT, .inl (cJ, 300, .inr (.inl (vp_updL Tm n t)))), (aB, .inl (cJ, 300, .inr (.inl (vp_updL Bt n (lN v))))), (aZ, .inl (cZ, 300, .inl (nF (updN Zb n 0)))), (aS, .inl (cI, 12000, .inl (nF (r_sumL (r_quo (r_open v α) β γ).1 n j 40 0 0 Sm)))), (aa, .inl (cI, 40, .inl (nF ((r_quo (r_open v α) β γ).1)))), (ab, .inl (cI, 40, .inl (nF (r_inc (r_open v α) β)))), (ac, .inl (cI, 40, .inl (nF ((r_quo (r_open v α) β γ).2))))] H := hP
              have hD : va_D A [(aR, .inl (cJ, 11, .inr (.inl ((m_med P Tm 11 0 (j + 1) Rk).1)))), (o, .inr (3, [.int (nI mo), .int (nI (n + 1)), .ref aP, .ref aH, .ref aT, .ref aB, .ref aZ, .ref aS, .ref aa, .ref ab, .ref ac, .ref aR])), (aP, .inl (cI, 300, .inl (pF (updN P n j)))), (aH, .inl (cI, 300, .inl (nF (updN Hh n (Hh j + 1))))), (aT, .inl (cJ, 300, .inr (.inl (vp_updL Tm n t)))), (aB, .inl (cJ, 300, .inr (.inl (vp_updL Bt n (lN v))))), (aZ, .inl (cZ, 300, .inl (nF (updN Zb n 0)))), (aS, .inl (cI, 12000, .inl (nF (r_sumL (r_quo (r_open v α) β γ).1 n j 40 0 0 Sm)))), (aa, .inl (cI, 40, .inl (nF ((r_quo (r_open v α) β γ).1)))), (ab, .inl (cI, 40, .inl (nF (r_inc (r_open v α) β)))), (ac, .inl (cI, 40, .inl (nF ((r_quo (r_open v α) β γ).2))))] := hD
              refine W.eq (g2 := F0 m 79 ls []) rfl ?_
              refine lv_aload_n hx hb dM_add_79 rfl (lv_at hl 0 rfl) ?_
              refine va_get (D := D) (ci := 3) (v := .int (nI (n + 1))) (C := RM) (T := TM) (N := 12) hx hb hts iM_add_M hown hK hP 1 rfl rfl 1 (by decide) (hts (.fieldLink RM 54 "TreeDeskModel" "many" "I") (by decide +kernel)) (fun _ h9 => h9) rfl dM_add_80 ?_
              refine lv_iconst (v := nI 1) hx hb dM_add_83 (by decide) ?_
              refine lv_isub hx hb dM_add_84 ?_
              refine tp_i (y := nI ((n + 1) - 1)) (pk_sub (by omega)) ?_
              exact rw_iret (w := [(o, .inr (3, [.int (nI mo), .int (nI (n + 1)), .ref aP, .ref aH, .ref aT, .ref aB, .ref aZ, .ref aS, .ref aa, .ref ab, .ref ac, .ref aR])), (aP, .inl (cI, 300, .inl (pF (updN P n j)))), (aH, .inl (cI, 300, .inl (nF (updN Hh n (Hh j + 1))))), (aT, .inl (cJ, 300, .inr (.inl (vp_updL Tm n t)))), (aB, .inl (cJ, 300, .inr (.inl (vp_updL Bt n (lN v))))), (aZ, .inl (cZ, 300, .inl (nF (updN Zb n 0)))), (aS, .inl (cI, 12000, .inl (nF (r_sumL (r_quo (r_open v α) β γ).1 n j 40 0 0 Sm)))), (aa, .inl (cI, 40, .inl (nF ((r_quo (r_open v α) β γ).1)))), (ab, .inl (cI, 40, .inl (nF (r_inc (r_open v α) β)))), (ac, .inl (cI, 40, .inl (nF ((r_quo (r_open v α) β γ).2)))), (aR, .inl (cJ, 11, .inr (.inl ((m_med P Tm 11 0 (j + 1) Rk).1))))]) hQ hx hb hr hlocks dM_add_85 (hP.sub [1, 2, 3, 4, 5, 6, 7, 8, 9, 10, 0] rfl) (hD.sub [1, 2, 3, 4, 5, 6, 7, 8, 9, 10, 0] (by decide) rfl) hS ⟨rfl, rfl⟩
            · skip
              have c_65 : n = mo := n_eq c_65 (by omega) (by omega)
              omega
          · skip
            exact absurd ht9 c_51
      · skip
        exact absurd hb9 c_30
    · skip
      rw [← nI_0] at c_16
      have c_16 : ¬ (Zb j) = 0 := n_ne c_16
      omega
  · skip
    rw [← nI_0] at c_5
    have c_5 : 1 = 0 := n_eq c_5 (by omega) (by omega)
    omega

abbrev rm_k_add_okR : Room := { frames := 3, cells := 0, slots := 0, locals := 78 }
set_option maxRecDepth 100000 in
set_option maxHeartbeats 4000000 in
theorem k_add_okR (l : Launch) (D : va_G) (cI cJ cZ : ClassId) (o : Nat) (mo : Nat) (n : Nat) (aP : Nat) (aH : Nat) (aT : Nat) (aB : Nat) (aZ : Nat) (aS : Nat) (aa : Nat) (ab : Nat) (ac : Nat) (aR : Nat) (P : Nat → Nat) (Hh : Nat → Nat) (Tm : Nat → Int64) (Bt : Nat → Int64) (Zb : Nat → Nat) (Sm : Nat → Nat) (α : Nat → Nat) (β : Nat → Nat) (γ : Nat → Nat) (Rk : Nat → Int64) (j : Nat) (t : Int64) (v : Nat) (v0 : Nat) (hn0 : 0 < n) (hn3 : n < 300) (hnm : ¬ n = mo) (hmo : mo ≤ 300) (hj : j < n) (hHj : Hh j < 300) (hv : v < 4294967296) (hz0 : Zb j = 0) (h8 : (Hh j + 1) % 8 = 0) (hbv : Bt j = lN v0) (hv0 : v0 < 4294967296) (hα8 : by8 α) (hβ8 : by8 β) (hγ8 : by8 γ) (hS8 : by8 Sm) (hb9 : lN v = lN (r_must v0 (Tm j - Tm (m_anc P (Hh j - (Hh j - 7)) j)) α β)) (ht8 : ¬ 4294967295 < t) (ht9 : (m_med P Tm 11 0 (j + 1) Rk).1 ((m_med P Tm 11 0 (j + 1) Rk).2 / 2) < t) (hpar : ∀ x : Nat, 0 < x → x < n → P x < x) (hH0 : Hh 0 = 0) (hHs : ∀ x : Nat, 0 < x → x < n → Hh x = Hh (P x) + 1) (hHb : ∀ x : Nat, x < n → Hh x < 300) : rw_C l yM_add wM_add rm_k_add_okR D vwCl (gT cI cJ cZ) [.ref o, .int (nI j), .long t, .long (lN v)] [(o, .inr (3, [.int (nI mo), .int (nI n), .ref aP, .ref aH, .ref aT, .ref aB, .ref aZ, .ref aS, .ref aa, .ref ab, .ref ac, .ref aR])), (aP, .inl (cI, 300, .inl (pF P))), (aH, .inl (cI, 300, .inl (nF Hh))), (aT, .inl (cJ, 300, .inr (.inl Tm))), (aB, .inl (cJ, 300, .inr (.inl Bt))), (aZ, .inl (cZ, 300, .inl (nF Zb))), (aS, .inl (cI, 12000, .inl (nF Sm))), (aa, .inl (cI, 40, .inl (nF α))), (ab, .inl (cI, 40, .inl (nF β))), (ac, .inl (cI, 40, .inl (nF γ))), (aR, .inl (cJ, 11, .inr (.inl Rk)))] (fun v9 w9 => v9 = some (.int (nI n)) ∧ w9 = [(o, .inr (3, [.int (nI mo), .int (nI (n + 1)), .ref aP, .ref aH, .ref aT, .ref aB, .ref aZ, .ref aS, .ref aa, .ref ab, .ref ac, .ref aR])), (aP, .inl (cI, 300, .inl (pF (updN P n j)))), (aH, .inl (cI, 300, .inl (nF (updN Hh n (Hh j + 1))))), (aT, .inl (cJ, 300, .inr (.inl (vp_updL Tm n t)))), (aB, .inl (cJ, 300, .inr (.inl (vp_updL Bt n (lN v))))), (aZ, .inl (cZ, 300, .inl (nF (updN Zb n 0)))), (aS, .inl (cI, 12000, .inl (nF (r_sumL (r_quo (r_open v (r_mustA v0 (Tm j - Tm (m_anc P (Hh j - (Hh j - 7)) j)) α)) (r_open 545259519 β) γ).1 n j 40 0 0 Sm)))), (aa, .inl (cI, 40, .inl (nF ((r_quo (r_open v (r_mustA v0 (Tm j - Tm (m_anc P (Hh j - (Hh j - 7)) j)) α)) (r_open 545259519 β) γ).1)))), (ab, .inl (cI, 40, .inl (nF (r_inc (r_open v (r_mustA v0 (Tm j - Tm (m_anc P (Hh j - (Hh j - 7)) j)) α)) (r_open 545259519 β))))), (ac, .inl (cI, 40, .inl (nF ((r_quo (r_open v (r_mustA v0 (Tm j - Tm (m_anc P (Hh j - (Hh j - 7)) j)) α)) (r_open 545259519 β) γ).2)))), (aR, .inl (cJ, 11, .inr (.inl ((m_med P Tm 11 0 (j + 1) Rk).1))))]) 0 0 := by
  refine rw_of (cc := cM_add) (maxL := 6) (ret := some .int) (by decide) rfl (Nat.le_of_ble_eq_true rfl) ?_
  intro p e s m args below meth c Q A ls hx hb hr hml hown hts hlocks hin hK hP hD hA hl hQ
  have hS : va_S A s.heap s.heap [] := va_S.rf
  have hl : lv_has ls 6 [(0, .ref o), (1, .int (nI j)), (2, .long t), (4, .long (lN v))] := hl
  have hown : s.vm.findClass RM = some m.cls := hown
  obtain ⟨H, hHe⟩ : ∃ H : Heap, H = s.heap := ⟨_, rfl⟩
  rw [← hHe] at hP
  have hS : va_S A s.heap H [] := by rw [hHe]; exact va_S.rf
  suffices h9 : W p l e rm_k_add_okR s m args below meth c H [] 0 0 Q (F0 m 0 ls []) by rw [hHe] at h9; exact h9
  clear hHe
  refine lv_aload_n hx hb dM_add_0 rfl (lv_at hl 0 rfl) ?_
  refine lv_iload_n hx hb dM_add_1 rfl (lv_at hl 1 rfl) ?_
  refine ro_ki (va_runV (As := [.int (nI j)]) (rest := []) ⟨hx, hb, hml, hown, hts⟩ (k_isBlock_ok l D cI cJ cZ o mo n aP aH aT aB aZ aS aa ab ac aR j (by omega) (by omega)) (cwV 1 hts gM_add_M_isBlock_102 rfl rfl rfl (by decide +kernel) ⟨Nat.le_of_ble_eq_true rfl, Nat.le_of_ble_eq_true rfl⟩) (ro_preV (hP.sub [0] rfl) hK (va_recv hK hP (ci := 3) (q0 := 0) rfl rfl)) rfl rfl hl.1 rfl (lv_room (Nat.le_of_ble_eq_true rfl)) dM_add_2 ⟨Nat.le_of_ble_eq_true rfl, Nat.le_of_ble_eq_true rfl⟩) ?_
  refine lv_if_ne (tgt := 10) hx hb dM_add_5 (by decide) (fun c_5 => ?_) (fun c_5 => ?_)
  · skip
    rw [← nI_0] at c_5
    have c_5 : ¬ 1 = 0 := n_ne c_5
    refine lv_aload_n hx hb dM_add_10 rfl (lv_at hl 0 rfl) ?_
    refine va_get (D := D) (ci := 3) (v := .ref aZ) (C := RM) (T := TM) (N := 12) hx hb hts iM_add_M hown hK hP 0 rfl rfl 6 (by decide) (hts (.fieldLink RM 23 "TreeDeskModel" "bad" "[Z") (by decide +kernel)) (fun _ h9 => h9) rfl dM_add_11 ?_
    refine lv_iload_n hx hb dM_add_14 rfl (lv_at hl 1 rfl) ?_
    refine ar_zld (j := j) hx hb hK hP 5 2 rfl rfl dM_add_15 (by omega) (by omega) ?_
    refine tp_i (y := nI (Zb j)) rfl ?_
    refine lv_if_eq (tgt := 22) hx hb dM_add_16 (by decide) (fun c_16 => ?_) (fun c_16 => ?_)
    · skip
      rw [← nI_0] at c_16
      have c_16 : (Zb j) = 0 := n_eq c_16 (by omega) (by omega)
      refine lv_lload hx hb dM_add_22 (lv_at hl 3 rfl) ?_
      refine lv_aload_n hx hb dM_add_24 rfl (lv_at hl 0 rfl) ?_
      refine lv_iload_n hx hb dM_add_25 rfl (lv_at hl 1 rfl) ?_
      refine rw_k (wc := [(o, .inr (3, [.int (nI mo), .int (nI n), .ref aP, .ref aH, .ref aT, .ref aB, .ref aZ, .ref aS, .ref aa, .ref ab, .ref ac, .ref aR])), (aP, .inl (cI, 300, .inl (pF P))), (aH, .inl (cI, 300, .inl (nF Hh))), (aT, .inl (cJ, 300, .inr (.inl Tm))), (aB, .inl (cJ, 300, .inr (.inl Bt))), (aa, .inl (cI, 40, .inl (nF α))), (ab, .inl (cI, 40, .inl (nF β)))]) (wr := [(aZ, .inl (cZ, 300, .inl (nF Zb))), (aS, .inl (cI, 12000, .inl (nF Sm))), (ac, .inl (cI, 40, .inl (nF γ))), (aR, .inl (cJ, 11, .inr (.inl Rk)))]) (va_runV (As := [.int (nI j)]) (rest := [.long (lN v)]) ⟨hx, hb, hml, hown, hts⟩ (k_must_ret l D cI cJ cZ o mo n aP aH aT aB aZ aS aa ab ac aR P Hh Tm Bt α β j v0 (by omega) (by omega) h8 hbv hv0 hα8 hβ8 hpar hH0 hHs hHb H.size) (cwV 1 hts gM_add_M_must_122 rfl rfl rfl (by decide +kernel) ⟨Nat.le_of_ble_eq_true rfl, Nat.le_of_ble_eq_true rfl⟩) (rw_preV (hP.sub [0, 1, 2, 3, 4, 7, 8] rfl) hK (hD.sub [0, 1, 2, 3, 4, 7, 8] (by decide) rfl) (va_recv hK hP (ci := 3) (q0 := 0) rfl rfl)) rfl rfl hl.1 rfl (lv_room (Nat.le_of_ble_eq_true rfl)) dM_add_26 ⟨Nat.le_of_ble_eq_true rfl, Nat.le_of_ble_eq_true rfl⟩) hP hD hS hA [0, 1, 2, 3, 4, 7, 8] [5, 6, 9, 10] rfl rfl (by decide) (by decide) (fun v9 w9 H locs hp9 hP hD hS => ?_)
      obtain ⟨rfl, rfl⟩ := hp9
      have hP : va_P D vwCl [(aZ, .inl (cZ, 300, .inl (nF Zb))), (aS, .inl (cI, 12000, .inl (nF Sm))), (ac, .inl (cI, 40, .inl (nF γ))), (aR, .inl (cJ, 11, .inr (.inl Rk))), (o, .inr (3, [.int (nI mo), .int (nI n), .ref aP, .ref aH, .ref aT, .ref aB, .ref aZ, .ref aS, .ref aa, .ref ab, .ref ac, .ref aR])), (aP, .inl (cI, 300, .inl (pF P))), (aH, .inl (cI, 300, .inl (nF Hh))), (aT, .inl (cJ, 300, .inr (.inl Tm))), (aB, .inl (cJ, 300, .inr (.inl Bt))), (aa, .inl (cI, 40, .inl (nF (r_mustA v0 (Tm j - Tm (m_anc P (Hh j - (Hh j - 7)) j)) α)))), (ab, .inl (cI, 40, .inl (nF (r_open 545259519 β))))] H := hP
      have hD : va_D A [(aZ, .inl (cZ, 300, .inl (nF Zb))), (aS, .inl (cI, 12000, .inl (nF Sm))), (ac, .inl (cI, 40, .inl (nF γ))), (aR, .inl (cJ, 11, .inr (.inl Rk))), (o, .inr (3, [.int (nI mo), .int (nI n), .ref aP, .ref aH, .ref aT, .ref aB, .ref aZ, .ref aS, .ref aa, .ref ab, .ref ac, .ref aR])), (aP, .inl (cI, 300, .inl (pF P))), (aH, .inl (cI, 300, .inl (nF Hh))), (aT, .inl (cJ, 300, .inr (.inl Tm))), (aB, .inl (cJ, 300, .inr (.inl Bt))), (aa, .inl (cI, 40, .inl (nF (r_mustA v0 (Tm j - Tm (m_anc P (Hh j - (Hh j - 7)) j)) α)))), (ab, .inl (cI, 40, .inl (nF (r_open 545259519 β))))] := hD
      refine W.eq (g2 := F0 m 29 ls [.long (lN (r_must v0 (Tm j - Tm (m_anc P (Hh j - (Hh j - 7)) j)) α β)), .long (lN v)]) rfl ?_
      refine lc_eq (tgt := 36) hx hb dM_add_29 dM_add_30 (by decide) (fun c_30 => ?_) (fun c_30 => ?_)
      · skip
        refine lv_lload_n hx hb dM_add_36 rfl (lv_at hl 2 rfl) ?_
        refine lv_ldc2 (v := 4294967295) hx hb hown (hts (.constantLong RM 46 4294967295) (by decide +kernel)) dM_add_37 ?_
        refine lc_gt (tgt := 54) hx hb dM_add_40 dM_add_41 (by decide) (fun c_41 => ?_) (fun c_41 => ?_)
        · skip
          exact absurd c_41 ht8
        · skip
          refine lv_lload_n hx hb dM_add_44 rfl (lv_at hl 2 rfl) ?_
          refine lv_aload_n hx hb dM_add_45 rfl (lv_at hl 0 rfl) ?_
          refine lv_iload_n hx hb dM_add_46 rfl (lv_at hl 1 rfl) ?_
          refine rw_k (wc := [(o, .inr (3, [.int (nI mo), .int (nI n), .ref aP, .ref aH, .ref aT, .ref aB, .ref aZ, .ref aS, .ref aa, .ref ab, .ref ac, .ref aR])), (aP, .inl (cI, 300, .inl (pF P))), (aT, .inl (cJ, 300, .inr (.inl Tm))), (aR, .inl (cJ, 11, .inr (.inl Rk)))]) (wr := [(aZ, .inl (cZ, 300, .inl (nF Zb))), (aS, .inl (cI, 12000, .inl (nF Sm))), (ac, .inl (cI, 40, .inl (nF γ))), (aH, .inl (cI, 300, .inl (nF Hh))), (aB, .inl (cJ, 300, .inr (.inl Bt))), (aa, .inl (cI, 40, .inl (nF (r_mustA v0 (Tm j - Tm (m_anc P (Hh j - (Hh j - 7)) j)) α)))), (ab, .inl (cI, 40, .inl (nF (r_open 545259519 β))))]) (va_runV (As := [.int (nI j)]) (rest := [.long t]) ⟨hx, hb, hml, hown, hts⟩ (k_median l D cI cJ cZ o mo n aP aH aT aB aZ aS aa ab ac aR P Tm Rk j (by omega) (by omega) hpar H.size) (cwV 1 hts gM_add_M_median_126 rfl rfl rfl (by decide +kernel) ⟨Nat.le_of_ble_eq_true rfl, Nat.le_of_ble_eq_true rfl⟩) (rw_preV (hP.sub [4, 5, 7, 3] rfl) hK (hD.sub [4, 5, 7, 3] (by decide) rfl) (va_recv hK hP (ci := 3) (q0 := 4) rfl rfl)) rfl rfl hl.1 rfl (lv_room (Nat.le_of_ble_eq_true rfl)) dM_add_47 ⟨Nat.le_of_ble_eq_true rfl, Nat.le_of_ble_eq_true rfl⟩) hP hD hS hA [4, 5, 7, 3] [0, 1, 2, 6, 8, 9, 10] rfl rfl (by decide) (by decide) (fun v9 w9 H locs hp9 hP hD hS => ?_)
          obtain ⟨rfl, rfl⟩ := hp9
          have hP : va_P D vwCl [(aZ, .inl (cZ, 300, .inl (nF Zb))), (aS, .inl (cI, 12000, .inl (nF Sm))), (ac, .inl (cI, 40, .inl (nF γ))), (aH, .inl (cI, 300, .inl (nF Hh))), (aB, .inl (cJ, 300, .inr (.inl Bt))), (aa, .inl (cI, 40, .inl (nF (r_mustA v0 (Tm j - Tm (m_anc P (Hh j - (Hh j - 7)) j)) α)))), (ab, .inl (cI, 40, .inl (nF (r_open 545259519 β)))), (o, .inr (3, [.int (nI mo), .int (nI n), .ref aP, .ref aH, .ref aT, .ref aB, .ref aZ, .ref aS, .ref aa, .ref ab, .ref ac, .ref aR])), (aP, .inl (cI, 300, .inl (pF P))), (aT, .inl (cJ, 300, .inr (.inl Tm))), (aR, .inl (cJ, 11, .inr (.inl ((m_med P Tm 11 0 (j + 1) Rk).1))))] H := hP
          have hD : va_D A [(aZ, .inl (cZ, 300, .inl (nF Zb))), (aS, .inl (cI, 12000, .inl (nF Sm))), (ac, .inl (cI, 40, .inl (nF γ))), (aH, .inl (cI, 300, .inl (nF Hh))), (aB, .inl (cJ, 300, .inr (.inl Bt))), (aa, .inl (cI, 40, .inl (nF (r_mustA v0 (Tm j - Tm (m_anc P (Hh j - (Hh j - 7)) j)) α)))), (ab, .inl (cI, 40, .inl (nF (r_open 545259519 β)))), (o, .inr (3, [.int (nI mo), .int (nI n), .ref aP, .ref aH, .ref aT, .ref aB, .ref aZ, .ref aS, .ref aa, .ref ab, .ref ac, .ref aR])), (aP, .inl (cI, 300, .inl (pF P))), (aT, .inl (cJ, 300, .inr (.inl Tm))), (aR, .inl (cJ, 11, .inr (.inl ((m_med P Tm 11 0 (j + 1) Rk).1))))] := hD
          refine W.eq (g2 := F0 m 50 ls [.long ((m_med P Tm 11 0 (j + 1) Rk).1 ((m_med P Tm 11 0 (j + 1) Rk).2 / 2)), .long t]) rfl ?_
          refine lc_gt (tgt := 57) hx hb dM_add_50 dM_add_51 (by decide) (fun c_51 => ?_) (fun c_51 => ?_)
          · skip
            refine lv_aload_n hx hb dM_add_57 rfl (lv_at hl 0 rfl) ?_
            refine va_get (D := D) (ci := 3) (v := .int (nI n)) (C := RM) (T := TM) (N := 12) hx hb hts iM_add_M hown hK hP 7 rfl rfl 1 (by decide) (hts (.fieldLink RM 54 "TreeDeskModel" "many" "I") (by decide +kernel)) (fun _ h9 => h9) rfl dM_add_58 ?_
            refine lv_aload_n hx hb dM_add_61 rfl (lv_at hl 0 rfl) ?_
            refine va_get (D := D) (ci := 3) (v := .int (nI mo)) (C := RM) (T := TM) (N := 12) hx hb hts iM_add_M hown hK hP 7 rfl rfl 0 (by decide) (hts (.fieldLink RM 42 "TreeDeskModel" "most" "I") (by decide +kernel)) (fun _ h9 => h9) rfl dM_add_62 ?_
            refine lv_icmp_ne (tgt := 71) hx hb dM_add_65 (by decide) (fun c_65 => ?_) (fun c_65 => ?_)
            · skip
              have c_65 : ¬ n = mo := n_ne c_65
              refine lv_aload_n hx hb dM_add_71 rfl (lv_at hl 0 rfl) ?_
              refine lv_iload_n hx hb dM_add_72 rfl (lv_at hl 1 rfl) ?_
              refine lv_lload_n hx hb dM_add_73 rfl (lv_at hl 2 rfl) ?_
              refine lv_lload hx hb dM_add_74 (lv_at hl 3 rfl) ?_
              refine rw_k (wc := [(o, .inr (3, [.int (nI mo), .int (nI n), .ref aP, .ref aH, .ref aT, .ref aB, .ref aZ, .ref aS, .ref aa, .ref ab, .ref ac, .ref aR])), (aP, .inl (cI, 300, .inl (pF P))), (aH, .inl (cI, 300, .inl (nF Hh))), (aT, .inl (cJ, 300, .inr (.inl Tm))), (aB, .inl (cJ, 300, .inr (.inl Bt))), (aZ, .inl (cZ, 300, .inl (nF Zb))), (aS, .inl (cI, 12000, .inl (nF Sm))), (aa, .inl (cI, 40, .inl (nF (r_mustA v0 (Tm j - Tm (m_anc P (Hh j - (Hh j - 7)) j)) α)))), (ab, .inl (cI, 40, .inl (nF (r_open 545259519 β)))), (ac, .inl (cI, 40, .inl (nF γ)))]) (wr := [(aR, .inl (cJ, 11, .inr (.inl ((m_med P Tm 11 0 (j + 1) Rk).1))))]) (va_runV (As := [.int (nI j), .long t, .long (lN v)]) (rest := []) ⟨hx, hb, hml, hown, hts⟩ (k_join l D cI cJ cZ o mo n aP aH aT aB aZ aS aa ab ac aR P Hh Tm Bt Zb Sm (r_mustA v0 (Tm j - Tm (m_anc P (Hh j - (Hh j - 7)) j)) α) (r_open 545259519 β) γ j t v (by omega) (by omega) (by omega) (by omega) hv (r_mustA_by hα8) (r_open_by hβ8) hγ8 hS8 H.size) (cwV 3 hts gM_add_M_join_50 rfl rfl rfl (by decide +kernel) ⟨Nat.le_of_ble_eq_true rfl, Nat.le_of_ble_eq_true rfl⟩) (rw_preV (hP.sub [7, 8, 3, 9, 4, 0, 1, 5, 6, 2] rfl) hK (hD.sub [7, 8, 3, 9, 4, 0, 1, 5, 6, 2] (by decide) rfl) (va_recv hK hP (ci := 3) (q0 := 7) rfl rfl)) rfl rfl hl.1 rfl (lv_room (Nat.le_of_ble_eq_true rfl)) dM_add_76 ⟨Nat.le_of_ble_eq_true rfl, Nat.le_of_ble_eq_true rfl⟩) hP hD hS hA [7, 8, 3, 9, 4, 0, 1, 5, 6, 2] [10] rfl rfl (by decide) (by decide) (fun v9 w9 H locs hp9 hP hD hS => ?_)
              obtain ⟨rfl, rfl⟩ := hp9
              have hP : va_P D vwCl [(aR, .inl (cJ, 11, .inr (.inl ((m_med P Tm 11 0 (j + 1) Rk).1)))), (o, .inr (3, [.int (nI mo), .int (nI (n + 1)), .ref aP, .ref aH, .ref aT, .ref aB, .ref aZ, .ref aS, .ref aa, .ref ab, .ref ac, .ref aR])), (aP, .inl (cI, 300, .inl (pF (updN P n j)))), (aH, .inl (cI, 300, .inl (nF (updN Hh n (Hh j + 1))))), (aT, .inl (cJ, 300, .inr (.inl (vp_updL Tm n t)))), (aB, .inl (cJ, 300, .inr (.inl (vp_updL Bt n (lN v))))), (aZ, .inl (cZ, 300, .inl (nF (updN Zb n 0)))), (aS, .inl (cI, 12000, .inl (nF (r_sumL (r_quo (r_open v (r_mustA v0 (Tm j - Tm (m_anc P (Hh j - (Hh j - 7)) j)) α)) (r_open 545259519 β) γ).1 n j 40 0 0 Sm)))), (aa, .inl (cI, 40, .inl (nF ((r_quo (r_open v (r_mustA v0 (Tm j - Tm (m_anc P (Hh j - (Hh j - 7)) j)) α)) (r_open 545259519 β) γ).1)))), (ab, .inl (cI, 40, .inl (nF (r_inc (r_open v (r_mustA v0 (Tm j - Tm (m_anc P (Hh j - (Hh j - 7)) j)) α)) (r_open 545259519 β))))), (ac, .inl (cI, 40, .inl (nF ((r_quo (r_open v (r_mustA v0 (Tm j - Tm (m_anc P (Hh j - (Hh j - 7)) j)) α)) (r_open 545259519 β) γ).2))))] H := hP
              have hD : va_D A [(aR, .inl (cJ, 11, .inr (.inl ((m_med P Tm 11 0 (j + 1) Rk).1)))), (o, .inr (3, [.int (nI mo), .int (nI (n + 1)), .ref aP, .ref aH, .ref aT, .ref aB, .ref aZ, .ref aS, .ref aa, .ref ab, .ref ac, .ref aR])), (aP, .inl (cI, 300, .inl (pF (updN P n j)))), (aH, .inl (cI, 300, .inl (nF (updN Hh n (Hh j + 1))))), (aT, .inl (cJ, 300, .inr (.inl (vp_updL Tm n t)))), (aB, .inl (cJ, 300, .inr (.inl (vp_updL Bt n (lN v))))), (aZ, .inl (cZ, 300, .inl (nF (updN Zb n 0)))), (aS, .inl (cI, 12000, .inl (nF (r_sumL (r_quo (r_open v (r_mustA v0 (Tm j - Tm (m_anc P (Hh j - (Hh j - 7)) j)) α)) (r_open 545259519 β) γ).1 n j 40 0 0 Sm)))), (aa, .inl (cI, 40, .inl (nF ((r_quo (r_open v (r_mustA v0 (Tm j - Tm (m_anc P (Hh j - (Hh j - 7)) j)) α)) (r_open 545259519 β) γ).1)))), (ab, .inl (cI, 40, .inl (nF (r_inc (r_open v (r_mustA v0 (Tm j - Tm (m_anc P (Hh j - (Hh j - 7)) j)) α)) (r_open 545259519 β))))), (ac, .inl (cI, 40, .inl (nF ((r_quo (r_open v (r_mustA v0 (Tm j - Tm (m_anc P (Hh j - (Hh j - 7)) j)) α)) (r_open 545259519 β) γ).2))))] := hD
              refine W.eq (g2 := F0 m 79 ls []) rfl ?_
              refine lv_aload_n hx hb dM_add_79 rfl (lv_at hl 0 rfl) ?_
              refine va_get (D := D) (ci := 3) (v := .int (nI (n + 1))) (C := RM) (T := TM) (N := 12) hx hb hts iM_add_M hown hK hP 1 rfl rfl 1 (by decide) (hts (.fieldLink RM 54 "TreeDeskModel" "many" "I") (by decide +kernel)) (fun _ h9 => h9) rfl dM_add_80 ?_
              refine lv_iconst (v := nI 1) hx hb dM_add_83 (by decide) ?_
              refine lv_isub hx hb dM_add_84 ?_
              refine tp_i (y := nI ((n + 1) - 1)) (pk_sub (by omega)) ?_
              exact rw_iret (w := [(o, .inr (3, [.int (nI mo), .int (nI (n + 1)), .ref aP, .ref aH, .ref aT, .ref aB, .ref aZ, .ref aS, .ref aa, .ref ab, .ref ac, .ref aR])), (aP, .inl (cI, 300, .inl (pF (updN P n j)))), (aH, .inl (cI, 300, .inl (nF (updN Hh n (Hh j + 1))))), (aT, .inl (cJ, 300, .inr (.inl (vp_updL Tm n t)))), (aB, .inl (cJ, 300, .inr (.inl (vp_updL Bt n (lN v))))), (aZ, .inl (cZ, 300, .inl (nF (updN Zb n 0)))), (aS, .inl (cI, 12000, .inl (nF (r_sumL (r_quo (r_open v (r_mustA v0 (Tm j - Tm (m_anc P (Hh j - (Hh j - 7)) j)) α)) (r_open 545259519 β) γ).1 n j 40 0 0 Sm)))), (aa, .inl (cI, 40, .inl (nF ((r_quo (r_open v (r_mustA v0 (Tm j - Tm (m_anc P (Hh j - (Hh j - 7)) j)) α)) (r_open 545259519 β) γ).1)))), (ab, .inl (cI, 40, .inl (nF (r_inc (r_open v (r_mustA v0 (Tm j - Tm (m_anc P (Hh j - (Hh j - 7)) j)) α)) (r_open 545259519 β))))), (ac, .inl (cI, 40, .inl (nF ((r_quo (r_open v (r_mustA v0 (Tm j - Tm (m_anc P (Hh j - (Hh j - 7)) j)) α)) (r_open 545259519 β) γ).2)))), (aR, .inl (cJ, 11, .inr (.inl ((m_med P Tm 11 0 (j + 1) Rk).1))))]) hQ hx hb hr hlocks dM_add_85 (hP.sub [1, 2, 3, 4, 5, 6, 7, 8, 9, 10, 0] rfl) (hD.sub [1, 2, 3, 4, 5, 6, 7, 8, 9, 10, 0] (by decide) rfl) hS ⟨rfl, rfl⟩
            · skip
              have c_65 : n = mo := n_eq c_65 (by omega) (by omega)
              omega
          · skip
            exact absurd ht9 c_51
      · skip
        exact absurd hb9 c_30
    · skip
      rw [← nI_0] at c_16
      have c_16 : ¬ (Zb j) = 0 := n_ne c_16
      omega
  · skip
    rw [← nI_0] at c_5
    have c_5 : 1 = 0 := n_eq c_5 (by omega) (by omega)
    omega

abbrev rm_k_init_in : Room := { frames := 3, cells := 10, slots := 13631, locals := 78 }
set_option maxRecDepth 100000 in
set_option maxHeartbeats 4000000 in
theorem k_init_in (l : Launch) (D : va_G) (cI cJ cZ : ClassId) (o : Nat) (mo : Nat) (t : Int32) (h2 : 2 ≤ mo) (h3 : mo ≤ 300) : rw_C l yM_init wM_init rm_k_init_in D vwCl (gT cI cJ cZ) [.ref o, .int (nI mo), .int t] [(o, .inr (3, [.int 0, .int 0, .null, .null, .null, .null, .null, .null, .null, .null, .null, .null]))] (fun v9 w9 => v9 = none ∧ ∃ aP aH aT aB aZ aS aa ab ac aR : Nat, w9 = [(o, .inr (3, [.int (nI mo), .int (nI 1), .ref aP, .ref aH, .ref aT, .ref aB, .ref aZ, .ref aS, .ref aa, .ref ab, .ref ac, .ref aR])), (aP, .inl (cI, 300, .inl (pF z0))), (aH, .inl (cI, 300, .inl (nF z0))), (aT, .inl (cJ, 300, .inr (.inl (vp_updL (fun _ => 0) 0 (t.toInt64 &&& 4294967295))))), (aB, .inl (cJ, 300, .inr (.inl (vp_updL (fun _ => 0) 0 (lN 545259519))))), (aZ, .inl (cZ, 300, .inl (nF z0))), (aS, .inl (cI, 12000, .inl (nF (r_cpyL (r_quo (r_open 545259519 z0) z0 z0).1 40 0 0 z0)))), (aa, .inl (cI, 40, .inl (nF ((r_quo (r_open 545259519 z0) z0 z0).1)))), (ab, .inl (cI, 40, .inl (nF (r_inc (r_open 545259519 z0) z0)))), (ac, .inl (cI, 40, .inl (nF ((r_quo (r_open 545259519 z0) z0 z0).2)))), (aR, .inl (cJ, 11, .inr (.inl (fun _ => 0))))]) 10 13631 := by
  refine rw_of (cc := cM_init) (maxL := 3) (ret := none) (by decide) rfl (Nat.le_of_ble_eq_true rfl) ?_
  intro p e s m args below meth c Q A ls hx hb hr hml hown hts hlocks hin hK hP hD hA hl hQ
  have hS : va_S A s.heap s.heap [] := va_S.rf
  have hl : lv_has ls 3 [(0, .ref o), (1, .int (nI mo)), (2, .int t)] := hl
  have hown : s.vm.findClass RM = some m.cls := hown
  obtain ⟨H, hHe⟩ : ∃ H : Heap, H = s.heap := ⟨_, rfl⟩
  rw [← hHe] at hP
  have hS : va_S A s.heap H [] := by rw [hHe]; exact va_S.rf
  suffices h9 : W p l e rm_k_init_in s m args below meth c H [] 0 0 Q (F0 m 0 ls []) by rw [hHe] at h9; exact h9
  clear hHe
  refine lv_aload_n hx hb dM_init_0 rfl (lv_at hl 0 rfl) ?_
  refine W.objInit hx hb hown (hts (.methodLink RM 1 objectInit) (by decide +kernel)) (hts (.instanceMethod objectInit) (by decide +kernel)) (hts (.code objectInit ⟨#[0xb1]⟩ 1 none) (by decide +kernel)) rfl (by rw [hml]; exact hl.1) rfl dM_init_1 (Nat.le_of_ble_eq_true rfl) (Nat.le_of_ble_eq_true rfl) ?_
  refine W.eq (g2 := F0 m 4 ls []) rfl ?_
  refine lv_aload_n hx hb dM_init_4 rfl (lv_at hl 0 rfl) ?_
  refine lv_sipush (v := nI 300) hx hb dM_init_5 (by decide) ?_
  refine ar_newI (N' := 300) hx hb (hts (.arrayClass .int) (by decide +kernel)) hK hP hD hS hA dM_init_8 (by omega) (show 0 + 1 ≤ 10 by omega) (show 0 + 300 ≤ 13631 by omega) (fun q8 H hP hD hS => ?_)
  have hP : va_P D vwCl [(o, .inr (3, [.int 0, .int 0, .null, .null, .null, .null, .null, .null, .null, .null, .null, .null])), (q8, .inl (cI, 300, .inl (fun _ => 0)))] H := hP
  have hD : va_D A [(o, .inr (3, [.int 0, .int 0, .null, .null, .null, .null, .null, .null, .null, .null, .null, .null])), (q8, .inl (cI, 300, .inl (fun _ => 0)))] := hD
  refine va_putF (D := D) (ci := 3) (v := .ref q8) (ty := .array .int) (C := RM) (T := TM) (N := 12) hx hb hts iM_init_M tyM tyM_ok nmM hown hK hP hD hS 0 rfl rfl 2 (by decide) (hts (.fieldLink RM 7 "TreeDeskModel" "parent" "[I") (by decide +kernel)) (fun _ h9 => h9) rfl hin rfl (by decide +kernel) rfl rfl (Nat.le_of_ble_eq_true rfl) dM_init_10 (fun H locs hP hD hS => ?_)
  have hP : va_P D vwCl [(o, .inr (3, [.int 0, .int 0, .ref q8, .null, .null, .null, .null, .null, .null, .null, .null, .null])), (q8, .inl (cI, 300, .inl (fun _ => 0)))] H := hP
  have hD : va_D A [(o, .inr (3, [.int 0, .int 0, .ref q8, .null, .null, .null, .null, .null, .null, .null, .null, .null])), (q8, .inl (cI, 300, .inl (fun _ => 0)))] := hD
  refine lv_aload_n hx hb dM_init_13 rfl (lv_at hl 0 rfl) ?_
  refine lv_sipush (v := nI 300) hx hb dM_init_14 (by decide) ?_
  refine ar_newI (N' := 300) hx hb (hts (.arrayClass .int) (by decide +kernel)) hK hP hD hS hA dM_init_17 (by omega) (show 1 + 1 ≤ 10 by omega) (show 0 + 300 + 300 ≤ 13631 by omega) (fun q17 H hP hD hS => ?_)
  have hP : va_P D vwCl [(o, .inr (3, [.int 0, .int 0, .ref q8, .null, .null, .null, .null, .null, .null, .null, .null, .null])), (q8, .inl (cI, 300, .inl (fun _ => 0))), (q17, .inl (cI, 300, .inl (fun _ => 0)))] H := hP
  have hD : va_D A [(o, .inr (3, [.int 0, .int 0, .ref q8, .null, .null, .null, .null, .null, .null, .null, .null, .null])), (q8, .inl (cI, 300, .inl (fun _ => 0))), (q17, .inl (cI, 300, .inl (fun _ => 0)))] := hD
  refine va_putF (D := D) (ci := 3) (v := .ref q17) (ty := .array .int) (C := RM) (T := TM) (N := 12) hx hb hts iM_init_M tyM tyM_ok nmM hown hK hP hD hS 0 rfl rfl 3 (by decide) (hts (.fieldLink RM 13 "TreeDeskModel" "height" "[I") (by decide +kernel)) (fun _ h9 => h9) rfl hin rfl (by decide +kernel) rfl rfl (Nat.le_of_ble_eq_true rfl) dM_init_19 (fun H locs hP hD hS => ?_)
  have hP : va_P D vwCl [(o, .inr (3, [.int 0, .int 0, .ref q8, .ref q17, .null, .null, .null, .null, .null, .null, .null, .null])), (q8, .inl (cI, 300, .inl (fun _ => 0))), (q17, .inl (cI, 300, .inl (fun _ => 0)))] H := hP
  have hD : va_D A [(o, .inr (3, [.int 0, .int 0, .ref q8, .ref q17, .null, .null, .null, .null, .null, .null, .null, .null])), (q8, .inl (cI, 300, .inl (fun _ => 0))), (q17, .inl (cI, 300, .inl (fun _ => 0)))] := hD
  refine lv_aload_n hx hb dM_init_22 rfl (lv_at hl 0 rfl) ?_
  refine lv_sipush (v := nI 300) hx hb dM_init_23 (by decide) ?_
  refine ar_newJ (N' := 300) hx hb (hts (.arrayClass .long) (by decide +kernel)) hK hP hD hS hA dM_init_26 (by omega) (show 2 + 1 ≤ 10 by omega) (show 0 + 300 + 300 + 300 ≤ 13631 by omega) (fun q26 H hP hD hS => ?_)
  have hP : va_P D vwCl [(o, .inr (3, [.int 0, .int 0, .ref q8, .ref q17, .null, .null, .null, .null, .null, .null, .null, .null])), (q8, .inl (cI, 300, .inl (fun _ => 0))), (q17, .inl (cI, 300, .inl (fun _ => 0))), (q26, .inl (cJ, 300, .inr (.inl (fun _ => 0))))] H := hP
  have hD : va_D A [(o, .inr (3, [.int 0, .int 0, .ref q8, .ref q17, .null, .null, .null, .null, .null, .null, .null, .null])), (q8, .inl (cI, 300, .inl (fun _ => 0))), (q17, .inl (cI, 300, .inl (fun _ => 0))), (q26, .inl (cJ, 300, .inr (.inl (fun _ => 0))))] := hD
  refine va_putF (D := D) (ci := 3) (v := .ref q26) (ty := .array .long) (C := RM) (T := TM) (N := 12) hx hb hts iM_init_M tyM tyM_ok nmM hown hK hP hD hS 0 rfl rfl 4 (by decide) (hts (.fieldLink RM 16 "TreeDeskModel" "time" "[J") (by decide +kernel)) (fun _ h9 => h9) rfl hin rfl (by decide +kernel) rfl rfl (Nat.le_of_ble_eq_true rfl) dM_init_28 (fun H locs hP hD hS => ?_)
  have hP : va_P D vwCl [(o, .inr (3, [.int 0, .int 0, .ref q8, .ref q17, .ref q26, .null, .null, .null, .null, .null, .null, .null])), (q8, .inl (cI, 300, .inl (fun _ => 0))), (q17, .inl (cI, 300, .inl (fun _ => 0))), (q26, .inl (cJ, 300, .inr (.inl (fun _ => 0))))] H := hP
  have hD : va_D A [(o, .inr (3, [.int 0, .int 0, .ref q8, .ref q17, .ref q26, .null, .null, .null, .null, .null, .null, .null])), (q8, .inl (cI, 300, .inl (fun _ => 0))), (q17, .inl (cI, 300, .inl (fun _ => 0))), (q26, .inl (cJ, 300, .inr (.inl (fun _ => 0))))] := hD
  refine lv_aload_n hx hb dM_init_31 rfl (lv_at hl 0 rfl) ?_
  refine lv_sipush (v := nI 300) hx hb dM_init_32 (by decide) ?_
  refine ar_newJ (N' := 300) hx hb (hts (.arrayClass .long) (by decide +kernel)) hK hP hD hS hA dM_init_35 (by omega) (show 3 + 1 ≤ 10 by omega) (show 0 + 300 + 300 + 300 + 300 ≤ 13631 by omega) (fun q35 H hP hD hS => ?_)
  have hP : va_P D vwCl [(o, .inr (3, [.int 0, .int 0, .ref q8, .ref q17, .ref q26, .null, .null, .null, .null, .null, .null, .null])), (q8, .inl (cI, 300, .inl (fun _ => 0))), (q17, .inl (cI, 300, .inl (fun _ => 0))), (q26, .inl (cJ, 300, .inr (.inl (fun _ => 0)))), (q35, .inl (cJ, 300, .inr (.inl (fun _ => 0))))] H := hP
  have hD : va_D A [(o, .inr (3, [.int 0, .int 0, .ref q8, .ref q17, .ref q26, .null, .null, .null, .null, .null, .null, .null])), (q8, .inl (cI, 300, .inl (fun _ => 0))), (q17, .inl (cI, 300, .inl (fun _ => 0))), (q26, .inl (cJ, 300, .inr (.inl (fun _ => 0)))), (q35, .inl (cJ, 300, .inr (.inl (fun _ => 0))))] := hD
  refine va_putF (D := D) (ci := 3) (v := .ref q35) (ty := .array .long) (C := RM) (T := TM) (N := 12) hx hb hts iM_init_M tyM tyM_ok nmM hown hK hP hD hS 0 rfl rfl 5 (by decide) (hts (.fieldLink RM 20 "TreeDeskModel" "bits" "[J") (by decide +kernel)) (fun _ h9 => h9) rfl hin rfl (by decide +kernel) rfl rfl (Nat.le_of_ble_eq_true rfl) dM_init_37 (fun H locs hP hD hS => ?_)
  have hP : va_P D vwCl [(o, .inr (3, [.int 0, .int 0, .ref q8, .ref q17, .ref q26, .ref q35, .null, .null, .null, .null, .null, .null])), (q8, .inl (cI, 300, .inl (fun _ => 0))), (q17, .inl (cI, 300, .inl (fun _ => 0))), (q26, .inl (cJ, 300, .inr (.inl (fun _ => 0)))), (q35, .inl (cJ, 300, .inr (.inl (fun _ => 0))))] H := hP
  have hD : va_D A [(o, .inr (3, [.int 0, .int 0, .ref q8, .ref q17, .ref q26, .ref q35, .null, .null, .null, .null, .null, .null])), (q8, .inl (cI, 300, .inl (fun _ => 0))), (q17, .inl (cI, 300, .inl (fun _ => 0))), (q26, .inl (cJ, 300, .inr (.inl (fun _ => 0)))), (q35, .inl (cJ, 300, .inr (.inl (fun _ => 0))))] := hD
  refine lv_aload_n hx hb dM_init_40 rfl (lv_at hl 0 rfl) ?_
  refine lv_sipush (v := nI 300) hx hb dM_init_41 (by decide) ?_
  refine ar_newZ (N' := 300) hx hb (hts (.arrayClass .boolean) (by decide +kernel)) hK hP hD hS hA dM_init_44 (by omega) (show 4 + 1 ≤ 10 by omega) (show 0 + 300 + 300 + 300 + 300 + 300 ≤ 13631 by omega) (fun q44 H hP hD hS => ?_)
  have hP : va_P D vwCl [(o, .inr (3, [.int 0, .int 0, .ref q8, .ref q17, .ref q26, .ref q35, .null, .null, .null, .null, .null, .null])), (q8, .inl (cI, 300, .inl (fun _ => 0))), (q17, .inl (cI, 300, .inl (fun _ => 0))), (q26, .inl (cJ, 300, .inr (.inl (fun _ => 0)))), (q35, .inl (cJ, 300, .inr (.inl (fun _ => 0)))), (q44, .inl (cZ, 300, .inl (fun _ => 0)))] H := hP
  have hD : va_D A [(o, .inr (3, [.int 0, .int 0, .ref q8, .ref q17, .ref q26, .ref q35, .null, .null, .null, .null, .null, .null])), (q8, .inl (cI, 300, .inl (fun _ => 0))), (q17, .inl (cI, 300, .inl (fun _ => 0))), (q26, .inl (cJ, 300, .inr (.inl (fun _ => 0)))), (q35, .inl (cJ, 300, .inr (.inl (fun _ => 0)))), (q44, .inl (cZ, 300, .inl (fun _ => 0)))] := hD
  refine va_putF (D := D) (ci := 3) (v := .ref q44) (ty := .array .boolean) (C := RM) (T := TM) (N := 12) hx hb hts iM_init_M tyM tyM_ok nmM hown hK hP hD hS 0 rfl rfl 6 (by decide) (hts (.fieldLink RM 23 "TreeDeskModel" "bad" "[Z") (by decide +kernel)) (fun _ h9 => h9) rfl hin rfl (by decide +kernel) rfl rfl (Nat.le_of_ble_eq_true rfl) dM_init_46 (fun H locs hP hD hS => ?_)
  have hP : va_P D vwCl [(o, .inr (3, [.int 0, .int 0, .ref q8, .ref q17, .ref q26, .ref q35, .ref q44, .null, .null, .null, .null, .null])), (q8, .inl (cI, 300, .inl (fun _ => 0))), (q17, .inl (cI, 300, .inl (fun _ => 0))), (q26, .inl (cJ, 300, .inr (.inl (fun _ => 0)))), (q35, .inl (cJ, 300, .inr (.inl (fun _ => 0)))), (q44, .inl (cZ, 300, .inl (fun _ => 0)))] H := hP
  have hD : va_D A [(o, .inr (3, [.int 0, .int 0, .ref q8, .ref q17, .ref q26, .ref q35, .ref q44, .null, .null, .null, .null, .null])), (q8, .inl (cI, 300, .inl (fun _ => 0))), (q17, .inl (cI, 300, .inl (fun _ => 0))), (q26, .inl (cJ, 300, .inr (.inl (fun _ => 0)))), (q35, .inl (cJ, 300, .inr (.inl (fun _ => 0)))), (q44, .inl (cZ, 300, .inl (fun _ => 0)))] := hD
  refine lv_aload_n hx hb dM_init_49 rfl (lv_at hl 0 rfl) ?_
  refine lv_sipush (v := nI 12000) hx hb dM_init_50 (by decide) ?_
  refine ar_newI (N' := 12000) hx hb (hts (.arrayClass .int) (by decide +kernel)) hK hP hD hS hA dM_init_53 (by omega) (show 5 + 1 ≤ 10 by omega) (show 0 + 300 + 300 + 300 + 300 + 300 + 12000 ≤ 13631 by omega) (fun q53 H hP hD hS => ?_)
  have hP : va_P D vwCl [(o, .inr (3, [.int 0, .int 0, .ref q8, .ref q17, .ref q26, .ref q35, .ref q44, .null, .null, .null, .null, .null])), (q8, .inl (cI, 300, .inl (fun _ => 0))), (q17, .inl (cI, 300, .inl (fun _ => 0))), (q26, .inl (cJ, 300, .inr (.inl (fun _ => 0)))), (q35, .inl (cJ, 300, .inr (.inl (fun _ => 0)))), (q44, .inl (cZ, 300, .inl (fun _ => 0))), (q53, .inl (cI, 12000, .inl (fun _ => 0)))] H := hP
  have hD : va_D A [(o, .inr (3, [.int 0, .int 0, .ref q8, .ref q17, .ref q26, .ref q35, .ref q44, .null, .null, .null, .null, .null])), (q8, .inl (cI, 300, .inl (fun _ => 0))), (q17, .inl (cI, 300, .inl (fun _ => 0))), (q26, .inl (cJ, 300, .inr (.inl (fun _ => 0)))), (q35, .inl (cJ, 300, .inr (.inl (fun _ => 0)))), (q44, .inl (cZ, 300, .inl (fun _ => 0))), (q53, .inl (cI, 12000, .inl (fun _ => 0)))] := hD
  refine va_putF (D := D) (ci := 3) (v := .ref q53) (ty := .array .int) (C := RM) (T := TM) (N := 12) hx hb hts iM_init_M tyM tyM_ok nmM hown hK hP hD hS 0 rfl rfl 7 (by decide) (hts (.fieldLink RM 27 "TreeDeskModel" "sums" "[I") (by decide +kernel)) (fun _ h9 => h9) rfl hin rfl (by decide +kernel) rfl rfl (Nat.le_of_ble_eq_true rfl) dM_init_55 (fun H locs hP hD hS => ?_)
  have hP : va_P D vwCl [(o, .inr (3, [.int 0, .int 0, .ref q8, .ref q17, .ref q26, .ref q35, .ref q44, .ref q53, .null, .null, .null, .null])), (q8, .inl (cI, 300, .inl (fun _ => 0))), (q17, .inl (cI, 300, .inl (fun _ => 0))), (q26, .inl (cJ, 300, .inr (.inl (fun _ => 0)))), (q35, .inl (cJ, 300, .inr (.inl (fun _ => 0)))), (q44, .inl (cZ, 300, .inl (fun _ => 0))), (q53, .inl (cI, 12000, .inl (fun _ => 0)))] H := hP
  have hD : va_D A [(o, .inr (3, [.int 0, .int 0, .ref q8, .ref q17, .ref q26, .ref q35, .ref q44, .ref q53, .null, .null, .null, .null])), (q8, .inl (cI, 300, .inl (fun _ => 0))), (q17, .inl (cI, 300, .inl (fun _ => 0))), (q26, .inl (cJ, 300, .inr (.inl (fun _ => 0)))), (q35, .inl (cJ, 300, .inr (.inl (fun _ => 0)))), (q44, .inl (cZ, 300, .inl (fun _ => 0))), (q53, .inl (cI, 12000, .inl (fun _ => 0)))] := hD
  refine lv_aload_n hx hb dM_init_58 rfl (lv_at hl 0 rfl) ?_
  refine lv_bipush (v := nI 40) hx hb dM_init_59 (by decide) ?_
  refine ar_newI (N' := 40) hx hb (hts (.arrayClass .int) (by decide +kernel)) hK hP hD hS hA dM_init_61 (by omega) (show 6 + 1 ≤ 10 by omega) (show 0 + 300 + 300 + 300 + 300 + 300 + 12000 + 40 ≤ 13631 by omega) (fun q61 H hP hD hS => ?_)
  have hP : va_P D vwCl [(o, .inr (3, [.int 0, .int 0, .ref q8, .ref q17, .ref q26, .ref q35, .ref q44, .ref q53, .null, .null, .null, .null])), (q8, .inl (cI, 300, .inl (fun _ => 0))), (q17, .inl (cI, 300, .inl (fun _ => 0))), (q26, .inl (cJ, 300, .inr (.inl (fun _ => 0)))), (q35, .inl (cJ, 300, .inr (.inl (fun _ => 0)))), (q44, .inl (cZ, 300, .inl (fun _ => 0))), (q53, .inl (cI, 12000, .inl (fun _ => 0))), (q61, .inl (cI, 40, .inl (fun _ => 0)))] H := hP
  have hD : va_D A [(o, .inr (3, [.int 0, .int 0, .ref q8, .ref q17, .ref q26, .ref q35, .ref q44, .ref q53, .null, .null, .null, .null])), (q8, .inl (cI, 300, .inl (fun _ => 0))), (q17, .inl (cI, 300, .inl (fun _ => 0))), (q26, .inl (cJ, 300, .inr (.inl (fun _ => 0)))), (q35, .inl (cJ, 300, .inr (.inl (fun _ => 0)))), (q44, .inl (cZ, 300, .inl (fun _ => 0))), (q53, .inl (cI, 12000, .inl (fun _ => 0))), (q61, .inl (cI, 40, .inl (fun _ => 0)))] := hD
  refine va_putF (D := D) (ci := 3) (v := .ref q61) (ty := .array .int) (C := RM) (T := TM) (N := 12) hx hb hts iM_init_M tyM tyM_ok nmM hown hK hP hD hS 0 rfl rfl 8 (by decide) (hts (.fieldLink RM 30 "TreeDeskModel" "a" "[I") (by decide +kernel)) (fun _ h9 => h9) rfl hin rfl (by decide +kernel) rfl rfl (Nat.le_of_ble_eq_true rfl) dM_init_63 (fun H locs hP hD hS => ?_)
  have hP : va_P D vwCl [(o, .inr (3, [.int 0, .int 0, .ref q8, .ref q17, .ref q26, .ref q35, .ref q44, .ref q53, .ref q61, .null, .null, .null])), (q8, .inl (cI, 300, .inl (fun _ => 0))), (q17, .inl (cI, 300, .inl (fun _ => 0))), (q26, .inl (cJ, 300, .inr (.inl (fun _ => 0)))), (q35, .inl (cJ, 300, .inr (.inl (fun _ => 0)))), (q44, .inl (cZ, 300, .inl (fun _ => 0))), (q53, .inl (cI, 12000, .inl (fun _ => 0))), (q61, .inl (cI, 40, .inl (fun _ => 0)))] H := hP
  have hD : va_D A [(o, .inr (3, [.int 0, .int 0, .ref q8, .ref q17, .ref q26, .ref q35, .ref q44, .ref q53, .ref q61, .null, .null, .null])), (q8, .inl (cI, 300, .inl (fun _ => 0))), (q17, .inl (cI, 300, .inl (fun _ => 0))), (q26, .inl (cJ, 300, .inr (.inl (fun _ => 0)))), (q35, .inl (cJ, 300, .inr (.inl (fun _ => 0)))), (q44, .inl (cZ, 300, .inl (fun _ => 0))), (q53, .inl (cI, 12000, .inl (fun _ => 0))), (q61, .inl (cI, 40, .inl (fun _ => 0)))] := hD
  refine lv_aload_n hx hb dM_init_66 rfl (lv_at hl 0 rfl) ?_
  refine lv_bipush (v := nI 40) hx hb dM_init_67 (by decide) ?_
  refine ar_newI (N' := 40) hx hb (hts (.arrayClass .int) (by decide +kernel)) hK hP hD hS hA dM_init_69 (by omega) (show 7 + 1 ≤ 10 by omega) (show 0 + 300 + 300 + 300 + 300 + 300 + 12000 + 40 + 40 ≤ 13631 by omega) (fun q69 H hP hD hS => ?_)
  have hP : va_P D vwCl [(o, .inr (3, [.int 0, .int 0, .ref q8, .ref q17, .ref q26, .ref q35, .ref q44, .ref q53, .ref q61, .null, .null, .null])), (q8, .inl (cI, 300, .inl (fun _ => 0))), (q17, .inl (cI, 300, .inl (fun _ => 0))), (q26, .inl (cJ, 300, .inr (.inl (fun _ => 0)))), (q35, .inl (cJ, 300, .inr (.inl (fun _ => 0)))), (q44, .inl (cZ, 300, .inl (fun _ => 0))), (q53, .inl (cI, 12000, .inl (fun _ => 0))), (q61, .inl (cI, 40, .inl (fun _ => 0))), (q69, .inl (cI, 40, .inl (fun _ => 0)))] H := hP
  have hD : va_D A [(o, .inr (3, [.int 0, .int 0, .ref q8, .ref q17, .ref q26, .ref q35, .ref q44, .ref q53, .ref q61, .null, .null, .null])), (q8, .inl (cI, 300, .inl (fun _ => 0))), (q17, .inl (cI, 300, .inl (fun _ => 0))), (q26, .inl (cJ, 300, .inr (.inl (fun _ => 0)))), (q35, .inl (cJ, 300, .inr (.inl (fun _ => 0)))), (q44, .inl (cZ, 300, .inl (fun _ => 0))), (q53, .inl (cI, 12000, .inl (fun _ => 0))), (q61, .inl (cI, 40, .inl (fun _ => 0))), (q69, .inl (cI, 40, .inl (fun _ => 0)))] := hD
  refine va_putF (D := D) (ci := 3) (v := .ref q69) (ty := .array .int) (C := RM) (T := TM) (N := 12) hx hb hts iM_init_M tyM tyM_ok nmM hown hK hP hD hS 0 rfl rfl 9 (by decide) (hts (.fieldLink RM 33 "TreeDeskModel" "b" "[I") (by decide +kernel)) (fun _ h9 => h9) rfl hin rfl (by decide +kernel) rfl rfl (Nat.le_of_ble_eq_true rfl) dM_init_71 (fun H locs hP hD hS => ?_)
  have hP : va_P D vwCl [(o, .inr (3, [.int 0, .int 0, .ref q8, .ref q17, .ref q26, .ref q35, .ref q44, .ref q53, .ref q61, .ref q69, .null, .null])), (q8, .inl (cI, 300, .inl (fun _ => 0))), (q17, .inl (cI, 300, .inl (fun _ => 0))), (q26, .inl (cJ, 300, .inr (.inl (fun _ => 0)))), (q35, .inl (cJ, 300, .inr (.inl (fun _ => 0)))), (q44, .inl (cZ, 300, .inl (fun _ => 0))), (q53, .inl (cI, 12000, .inl (fun _ => 0))), (q61, .inl (cI, 40, .inl (fun _ => 0))), (q69, .inl (cI, 40, .inl (fun _ => 0)))] H := hP
  have hD : va_D A [(o, .inr (3, [.int 0, .int 0, .ref q8, .ref q17, .ref q26, .ref q35, .ref q44, .ref q53, .ref q61, .ref q69, .null, .null])), (q8, .inl (cI, 300, .inl (fun _ => 0))), (q17, .inl (cI, 300, .inl (fun _ => 0))), (q26, .inl (cJ, 300, .inr (.inl (fun _ => 0)))), (q35, .inl (cJ, 300, .inr (.inl (fun _ => 0)))), (q44, .inl (cZ, 300, .inl (fun _ => 0))), (q53, .inl (cI, 12000, .inl (fun _ => 0))), (q61, .inl (cI, 40, .inl (fun _ => 0))), (q69, .inl (cI, 40, .inl (fun _ => 0)))] := hD
  refine lv_aload_n hx hb dM_init_74 rfl (lv_at hl 0 rfl) ?_
  refine lv_bipush (v := nI 40) hx hb dM_init_75 (by decide) ?_
  refine ar_newI (N' := 40) hx hb (hts (.arrayClass .int) (by decide +kernel)) hK hP hD hS hA dM_init_77 (by omega) (show 8 + 1 ≤ 10 by omega) (show 0 + 300 + 300 + 300 + 300 + 300 + 12000 + 40 + 40 + 40 ≤ 13631 by omega) (fun q77 H hP hD hS => ?_)
  have hP : va_P D vwCl [(o, .inr (3, [.int 0, .int 0, .ref q8, .ref q17, .ref q26, .ref q35, .ref q44, .ref q53, .ref q61, .ref q69, .null, .null])), (q8, .inl (cI, 300, .inl (fun _ => 0))), (q17, .inl (cI, 300, .inl (fun _ => 0))), (q26, .inl (cJ, 300, .inr (.inl (fun _ => 0)))), (q35, .inl (cJ, 300, .inr (.inl (fun _ => 0)))), (q44, .inl (cZ, 300, .inl (fun _ => 0))), (q53, .inl (cI, 12000, .inl (fun _ => 0))), (q61, .inl (cI, 40, .inl (fun _ => 0))), (q69, .inl (cI, 40, .inl (fun _ => 0))), (q77, .inl (cI, 40, .inl (fun _ => 0)))] H := hP
  have hD : va_D A [(o, .inr (3, [.int 0, .int 0, .ref q8, .ref q17, .ref q26, .ref q35, .ref q44, .ref q53, .ref q61, .ref q69, .null, .null])), (q8, .inl (cI, 300, .inl (fun _ => 0))), (q17, .inl (cI, 300, .inl (fun _ => 0))), (q26, .inl (cJ, 300, .inr (.inl (fun _ => 0)))), (q35, .inl (cJ, 300, .inr (.inl (fun _ => 0)))), (q44, .inl (cZ, 300, .inl (fun _ => 0))), (q53, .inl (cI, 12000, .inl (fun _ => 0))), (q61, .inl (cI, 40, .inl (fun _ => 0))), (q69, .inl (cI, 40, .inl (fun _ => 0))), (q77, .inl (cI, 40, .inl (fun _ => 0)))] := hD
  refine va_putF (D := D) (ci := 3) (v := .ref q77) (ty := .array .int) (C := RM) (T := TM) (N := 12) hx hb hts iM_init_M tyM tyM_ok nmM hown hK hP hD hS 0 rfl rfl 10 (by decide) (hts (.fieldLink RM 36 "TreeDeskModel" "c" "[I") (by decide +kernel)) (fun _ h9 => h9) rfl hin rfl (by decide +kernel) rfl rfl (Nat.le_of_ble_eq_true rfl) dM_init_79 (fun H locs hP hD hS => ?_)
  have hP : va_P D vwCl [(o, .inr (3, [.int 0, .int 0, .ref q8, .ref q17, .ref q26, .ref q35, .ref q44, .ref q53, .ref q61, .ref q69, .ref q77, .null])), (q8, .inl (cI, 300, .inl (fun _ => 0))), (q17, .inl (cI, 300, .inl (fun _ => 0))), (q26, .inl (cJ, 300, .inr (.inl (fun _ => 0)))), (q35, .inl (cJ, 300, .inr (.inl (fun _ => 0)))), (q44, .inl (cZ, 300, .inl (fun _ => 0))), (q53, .inl (cI, 12000, .inl (fun _ => 0))), (q61, .inl (cI, 40, .inl (fun _ => 0))), (q69, .inl (cI, 40, .inl (fun _ => 0))), (q77, .inl (cI, 40, .inl (fun _ => 0)))] H := hP
  have hD : va_D A [(o, .inr (3, [.int 0, .int 0, .ref q8, .ref q17, .ref q26, .ref q35, .ref q44, .ref q53, .ref q61, .ref q69, .ref q77, .null])), (q8, .inl (cI, 300, .inl (fun _ => 0))), (q17, .inl (cI, 300, .inl (fun _ => 0))), (q26, .inl (cJ, 300, .inr (.inl (fun _ => 0)))), (q35, .inl (cJ, 300, .inr (.inl (fun _ => 0)))), (q44, .inl (cZ, 300, .inl (fun _ => 0))), (q53, .inl (cI, 12000, .inl (fun _ => 0))), (q61, .inl (cI, 40, .inl (fun _ => 0))), (q69, .inl (cI, 40, .inl (fun _ => 0))), (q77, .inl (cI, 40, .inl (fun _ => 0)))] := hD
  refine lv_aload_n hx hb dM_init_82 rfl (lv_at hl 0 rfl) ?_
  refine lv_bipush (v := nI 11) hx hb dM_init_83 (by decide) ?_
  refine ar_newJ (N' := 11) hx hb (hts (.arrayClass .long) (by decide +kernel)) hK hP hD hS hA dM_init_85 (by omega) (show 9 + 1 ≤ 10 by omega) (show 0 + 300 + 300 + 300 + 300 + 300 + 12000 + 40 + 40 + 40 + 11 ≤ 13631 by omega) (fun q85 H hP hD hS => ?_)
  have hP : va_P D vwCl [(o, .inr (3, [.int 0, .int 0, .ref q8, .ref q17, .ref q26, .ref q35, .ref q44, .ref q53, .ref q61, .ref q69, .ref q77, .null])), (q8, .inl (cI, 300, .inl (fun _ => 0))), (q17, .inl (cI, 300, .inl (fun _ => 0))), (q26, .inl (cJ, 300, .inr (.inl (fun _ => 0)))), (q35, .inl (cJ, 300, .inr (.inl (fun _ => 0)))), (q44, .inl (cZ, 300, .inl (fun _ => 0))), (q53, .inl (cI, 12000, .inl (fun _ => 0))), (q61, .inl (cI, 40, .inl (fun _ => 0))), (q69, .inl (cI, 40, .inl (fun _ => 0))), (q77, .inl (cI, 40, .inl (fun _ => 0))), (q85, .inl (cJ, 11, .inr (.inl (fun _ => 0))))] H := hP
  have hD : va_D A [(o, .inr (3, [.int 0, .int 0, .ref q8, .ref q17, .ref q26, .ref q35, .ref q44, .ref q53, .ref q61, .ref q69, .ref q77, .null])), (q8, .inl (cI, 300, .inl (fun _ => 0))), (q17, .inl (cI, 300, .inl (fun _ => 0))), (q26, .inl (cJ, 300, .inr (.inl (fun _ => 0)))), (q35, .inl (cJ, 300, .inr (.inl (fun _ => 0)))), (q44, .inl (cZ, 300, .inl (fun _ => 0))), (q53, .inl (cI, 12000, .inl (fun _ => 0))), (q61, .inl (cI, 40, .inl (fun _ => 0))), (q69, .inl (cI, 40, .inl (fun _ => 0))), (q77, .inl (cI, 40, .inl (fun _ => 0))), (q85, .inl (cJ, 11, .inr (.inl (fun _ => 0))))] := hD
  refine va_putF (D := D) (ci := 3) (v := .ref q85) (ty := .array .long) (C := RM) (T := TM) (N := 12) hx hb hts iM_init_M tyM tyM_ok nmM hown hK hP hD hS 0 rfl rfl 11 (by decide) (hts (.fieldLink RM 39 "TreeDeskModel" "times" "[J") (by decide +kernel)) (fun _ h9 => h9) rfl hin rfl (by decide +kernel) rfl rfl (Nat.le_of_ble_eq_true rfl) dM_init_87 (fun H locs hP hD hS => ?_)
  have hP : va_P D vwCl [(o, .inr (3, [.int 0, .int 0, .ref q8, .ref q17, .ref q26, .ref q35, .ref q44, .ref q53, .ref q61, .ref q69, .ref q77, .ref q85])), (q8, .inl (cI, 300, .inl (fun _ => 0))), (q17, .inl (cI, 300, .inl (fun _ => 0))), (q26, .inl (cJ, 300, .inr (.inl (fun _ => 0)))), (q35, .inl (cJ, 300, .inr (.inl (fun _ => 0)))), (q44, .inl (cZ, 300, .inl (fun _ => 0))), (q53, .inl (cI, 12000, .inl (fun _ => 0))), (q61, .inl (cI, 40, .inl (fun _ => 0))), (q69, .inl (cI, 40, .inl (fun _ => 0))), (q77, .inl (cI, 40, .inl (fun _ => 0))), (q85, .inl (cJ, 11, .inr (.inl (fun _ => 0))))] H := hP
  have hD : va_D A [(o, .inr (3, [.int 0, .int 0, .ref q8, .ref q17, .ref q26, .ref q35, .ref q44, .ref q53, .ref q61, .ref q69, .ref q77, .ref q85])), (q8, .inl (cI, 300, .inl (fun _ => 0))), (q17, .inl (cI, 300, .inl (fun _ => 0))), (q26, .inl (cJ, 300, .inr (.inl (fun _ => 0)))), (q35, .inl (cJ, 300, .inr (.inl (fun _ => 0)))), (q44, .inl (cZ, 300, .inl (fun _ => 0))), (q53, .inl (cI, 12000, .inl (fun _ => 0))), (q61, .inl (cI, 40, .inl (fun _ => 0))), (q69, .inl (cI, 40, .inl (fun _ => 0))), (q77, .inl (cI, 40, .inl (fun _ => 0))), (q85, .inl (cJ, 11, .inr (.inl (fun _ => 0))))] := hD
  rw [nF_z] at hP hD
  refine lv_aload_n hx hb dM_init_90 rfl (lv_at hl 0 rfl) ?_
  refine lv_iload_n hx hb dM_init_91 rfl (lv_at hl 1 rfl) ?_
  refine lv_iconst (v := nI 2) hx hb dM_init_92 (by decide) ?_
  refine lv_icmp_lt (tgt := 107) hx hb dM_init_93 (by decide) (fun c_93 => ?_) (fun c_93 => ?_)
  · skip
    have c_93 : mo < 2 := n_lt c_93 (by omega) (by omega)
    omega
  · skip
    have c_93 : 2 ≤ mo := n_nlt c_93 (by omega) (by omega)
    refine lv_iload_n hx hb dM_init_96 rfl (lv_at hl 1 rfl) ?_
    refine lv_sipush (v := nI 300) hx hb dM_init_97 (by decide) ?_
    refine lv_icmp_gt (tgt := 107) hx hb dM_init_100 (by decide) (fun c_100 => ?_) (fun c_100 => ?_)
    · skip
      have c_100 : 300 < mo := n_lt c_100 (by omega) (by omega)
      omega
    · skip
      have c_100 : mo ≤ 300 := n_nlt c_100 (by omega) (by omega)
      refine lv_iload_n hx hb dM_init_103 rfl (lv_at hl 1 rfl) ?_
      refine lv_goto (tgt := 109) hx hb dM_init_104 (by decide) ?_
      refine va_putF (D := D) (ci := 3) (v := .int (nI mo)) (ty := .int) (C := RM) (T := TM) (N := 12) hx hb hts iM_init_M tyM tyM_ok nmM hown hK hP hD hS 0 rfl rfl 0 (by decide) (hts (.fieldLink RM 42 "TreeDeskModel" "most" "I") (by decide +kernel)) (fun _ h9 => h9) rfl hin rfl (by decide +kernel) rfl rfl (Nat.le_of_ble_eq_true rfl) dM_init_109 (fun H locs hP hD hS => ?_)
      have hP : va_P D vwCl [(o, .inr (3, [.int (nI mo), .int 0, .ref q8, .ref q17, .ref q26, .ref q35, .ref q44, .ref q53, .ref q61, .ref q69, .ref q77, .ref q85])), (q8, .inl (cI, 300, .inl (nF z0))), (q17, .inl (cI, 300, .inl (nF z0))), (q26, .inl (cJ, 300, .inr (.inl (fun _ => 0)))), (q35, .inl (cJ, 300, .inr (.inl (fun _ => 0)))), (q44, .inl (cZ, 300, .inl (nF z0))), (q53, .inl (cI, 12000, .inl (nF z0))), (q61, .inl (cI, 40, .inl (nF z0))), (q69, .inl (cI, 40, .inl (nF z0))), (q77, .inl (cI, 40, .inl (nF z0))), (q85, .inl (cJ, 11, .inr (.inl (fun _ => 0))))] H := hP
      have hD : va_D A [(o, .inr (3, [.int (nI mo), .int 0, .ref q8, .ref q17, .ref q26, .ref q35, .ref q44, .ref q53, .ref q61, .ref q69, .ref q77, .ref q85])), (q8, .inl (cI, 300, .inl (nF z0))), (q17, .inl (cI, 300, .inl (nF z0))), (q26, .inl (cJ, 300, .inr (.inl (fun _ => 0)))), (q35, .inl (cJ, 300, .inr (.inl (fun _ => 0)))), (q44, .inl (cZ, 300, .inl (nF z0))), (q53, .inl (cI, 12000, .inl (nF z0))), (q61, .inl (cI, 40, .inl (nF z0))), (q69, .inl (cI, 40, .inl (nF z0))), (q77, .inl (cI, 40, .inl (nF z0))), (q85, .inl (cJ, 11, .inr (.inl (fun _ => 0))))] := hD
      refine lv_aload_n hx hb dM_init_112 rfl (lv_at hl 0 rfl) ?_
      refine lv_iconst (v := (-1)) hx hb dM_init_113 (by decide) ?_
      refine lv_iload_n hx hb dM_init_114 rfl (lv_at hl 2 rfl) ?_
      refine lv_i2l (v := t.toInt64) hx hb dM_init_115 rfl ?_
      refine lv_ldc2 (v := 4294967295) hx hb hown (hts (.constantLong RM 46 4294967295) (by decide +kernel)) dM_init_116 ?_
      refine lv_land hx hb dM_init_119 ?_
      refine lv_ldc2 (v := 545259519) hx hb hown (hts (.constantLong RM 48 545259519) (by decide +kernel)) dM_init_120 ?_
      refine tp_l (y := lN 545259519) (by decide) ?_
      refine rw_k (wc := [(o, .inr (3, [.int (nI mo), .int 0, .ref q8, .ref q17, .ref q26, .ref q35, .ref q44, .ref q53, .ref q61, .ref q69, .ref q77, .ref q85])), (q8, .inl (cI, 300, .inl (nF z0))), (q17, .inl (cI, 300, .inl (nF z0))), (q26, .inl (cJ, 300, .inr (.inl (fun _ => 0)))), (q35, .inl (cJ, 300, .inr (.inl (fun _ => 0)))), (q44, .inl (cZ, 300, .inl (nF z0))), (q53, .inl (cI, 12000, .inl (nF z0))), (q61, .inl (cI, 40, .inl (nF z0))), (q69, .inl (cI, 40, .inl (nF z0))), (q77, .inl (cI, 40, .inl (nF z0)))]) (wr := [(q85, .inl (cJ, 11, .inr (.inl (fun _ => 0))))]) (va_runV (As := [.int (-1), .long (t.toInt64 &&& 4294967295), .long (lN 545259519)]) (rest := []) ⟨hx, hb, hml, hown, hts⟩ (k_join_root l D cI cJ cZ o mo q8 q17 q26 q35 q44 q53 q61 q69 q77 q85 (t.toInt64 &&& 4294967295) H.size) (cwV 3 hts gM_init_M_join_50 rfl rfl rfl (by decide +kernel) ⟨Nat.le_of_ble_eq_true rfl, Nat.le_of_ble_eq_true rfl⟩) (rw_preV (hP.sub [0, 1, 2, 3, 4, 5, 6, 7, 8, 9] rfl) hK (hD.sub [0, 1, 2, 3, 4, 5, 6, 7, 8, 9] (by decide) rfl) (va_recv hK hP (ci := 3) (q0 := 0) rfl rfl)) rfl rfl hl.1 rfl (lv_room (Nat.le_of_ble_eq_true rfl)) dM_init_123 ⟨show 10 + 0 ≤ 10 by omega, show 0 + 300 + 300 + 300 + 300 + 300 + 12000 + 40 + 40 + 40 + 11 + 0 ≤ 13631 by omega⟩) hP hD hS hA [0, 1, 2, 3, 4, 5, 6, 7, 8, 9] [10] rfl rfl (by decide) (by decide) (fun v9 w9 H locs hp9 hP hD hS => ?_)
      obtain ⟨rfl, rfl⟩ := hp9
      have hP : va_P D vwCl [(q85, .inl (cJ, 11, .inr (.inl (fun _ => 0)))), (o, .inr (3, [.int (nI mo), .int (nI 1), .ref q8, .ref q17, .ref q26, .ref q35, .ref q44, .ref q53, .ref q61, .ref q69, .ref q77, .ref q85])), (q8, .inl (cI, 300, .inl (pF z0))), (q17, .inl (cI, 300, .inl (nF z0))), (q26, .inl (cJ, 300, .inr (.inl (vp_updL (fun _ => 0) 0 (t.toInt64 &&& 4294967295))))), (q35, .inl (cJ, 300, .inr (.inl (vp_updL (fun _ => 0) 0 (lN 545259519))))), (q44, .inl (cZ, 300, .inl (nF z0))), (q53, .inl (cI, 12000, .inl (nF (r_cpyL (r_quo (r_open 545259519 z0) z0 z0).1 40 0 0 z0)))), (q61, .inl (cI, 40, .inl (nF ((r_quo (r_open 545259519 z0) z0 z0).1)))), (q69, .inl (cI, 40, .inl (nF (r_inc (r_open 545259519 z0) z0)))), (q77, .inl (cI, 40, .inl (nF ((r_quo (r_open 545259519 z0) z0 z0).2))))] H := hP
      have hD : va_D A [(q85, .inl (cJ, 11, .inr (.inl (fun _ => 0)))), (o, .inr (3, [.int (nI mo), .int (nI 1), .ref q8, .ref q17, .ref q26, .ref q35, .ref q44, .ref q53, .ref q61, .ref q69, .ref q77, .ref q85])), (q8, .inl (cI, 300, .inl (pF z0))), (q17, .inl (cI, 300, .inl (nF z0))), (q26, .inl (cJ, 300, .inr (.inl (vp_updL (fun _ => 0) 0 (t.toInt64 &&& 4294967295))))), (q35, .inl (cJ, 300, .inr (.inl (vp_updL (fun _ => 0) 0 (lN 545259519))))), (q44, .inl (cZ, 300, .inl (nF z0))), (q53, .inl (cI, 12000, .inl (nF (r_cpyL (r_quo (r_open 545259519 z0) z0 z0).1 40 0 0 z0)))), (q61, .inl (cI, 40, .inl (nF ((r_quo (r_open 545259519 z0) z0 z0).1)))), (q69, .inl (cI, 40, .inl (nF (r_inc (r_open 545259519 z0) z0)))), (q77, .inl (cI, 40, .inl (nF ((r_quo (r_open 545259519 z0) z0 z0).2))))] := hD
      refine W.eq (g2 := F0 m 126 ls []) rfl ?_
      refine W.widen (k := 10) (n := 13631) (by omega) (by omega) ?_
      exact rw_vret (w := [(o, .inr (3, [.int (nI mo), .int (nI 1), .ref q8, .ref q17, .ref q26, .ref q35, .ref q44, .ref q53, .ref q61, .ref q69, .ref q77, .ref q85])), (q8, .inl (cI, 300, .inl (pF z0))), (q17, .inl (cI, 300, .inl (nF z0))), (q26, .inl (cJ, 300, .inr (.inl (vp_updL (fun _ => 0) 0 (t.toInt64 &&& 4294967295))))), (q35, .inl (cJ, 300, .inr (.inl (vp_updL (fun _ => 0) 0 (lN 545259519))))), (q44, .inl (cZ, 300, .inl (nF z0))), (q53, .inl (cI, 12000, .inl (nF (r_cpyL (r_quo (r_open 545259519 z0) z0 z0).1 40 0 0 z0)))), (q61, .inl (cI, 40, .inl (nF ((r_quo (r_open 545259519 z0) z0 z0).1)))), (q69, .inl (cI, 40, .inl (nF (r_inc (r_open 545259519 z0) z0)))), (q77, .inl (cI, 40, .inl (nF ((r_quo (r_open 545259519 z0) z0 z0).2)))), (q85, .inl (cJ, 11, .inr (.inl (fun _ => 0))))]) hQ hx hb hr hlocks dM_init_126 (hP.sub [1, 2, 3, 4, 5, 6, 7, 8, 9, 10, 0] rfl) (hD.sub [1, 2, 3, 4, 5, 6, 7, 8, 9, 10, 0] (by decide) rfl) hS ⟨rfl, q8, q17, q26, q35, q44, q53, q61, q69, q77, q85, rfl⟩

abbrev rm_k_init_out : Room := { frames := 3, cells := 10, slots := 13631, locals := 78 }
set_option maxRecDepth 100000 in
set_option maxHeartbeats 4000000 in
theorem k_init_out (l : Launch) (D : va_G) (cI cJ cZ : ClassId) (o : Nat) (x : Int32) (t : Int32) (hx9 : ¬ (nI 2 ≤ x ∧ x ≤ nI 300)) : rw_C l yM_init wM_init rm_k_init_out D vwCl (gT cI cJ cZ) [.ref o, .int x, .int t] [(o, .inr (3, [.int 0, .int 0, .null, .null, .null, .null, .null, .null, .null, .null, .null, .null]))] (fun v9 w9 => v9 = none ∧ ∃ aP aH aT aB aZ aS aa ab ac aR : Nat, w9 = [(o, .inr (3, [.int (nI 100), .int (nI 1), .ref aP, .ref aH, .ref aT, .ref aB, .ref aZ, .ref aS, .ref aa, .ref ab, .ref ac, .ref aR])), (aP, .inl (cI, 300, .inl (pF z0))), (aH, .inl (cI, 300, .inl (nF z0))), (aT, .inl (cJ, 300, .inr (.inl (vp_updL (fun _ => 0) 0 (t.toInt64 &&& 4294967295))))), (aB, .inl (cJ, 300, .inr (.inl (vp_updL (fun _ => 0) 0 (lN 545259519))))), (aZ, .inl (cZ, 300, .inl (nF z0))), (aS, .inl (cI, 12000, .inl (nF (r_cpyL (r_quo (r_open 545259519 z0) z0 z0).1 40 0 0 z0)))), (aa, .inl (cI, 40, .inl (nF ((r_quo (r_open 545259519 z0) z0 z0).1)))), (ab, .inl (cI, 40, .inl (nF (r_inc (r_open 545259519 z0) z0)))), (ac, .inl (cI, 40, .inl (nF ((r_quo (r_open 545259519 z0) z0 z0).2)))), (aR, .inl (cJ, 11, .inr (.inl (fun _ => 0))))]) 10 13631 := by
  refine rw_of (cc := cM_init) (maxL := 3) (ret := none) (by decide) rfl (Nat.le_of_ble_eq_true rfl) ?_
  intro p e s m args below meth c Q A ls hx hb hr hml hown hts hlocks hin hK hP hD hA hl hQ
  have hS : va_S A s.heap s.heap [] := va_S.rf
  have hl : lv_has ls 3 [(0, .ref o), (1, .int x), (2, .int t)] := hl
  have hown : s.vm.findClass RM = some m.cls := hown
  obtain ⟨H, hHe⟩ : ∃ H : Heap, H = s.heap := ⟨_, rfl⟩
  rw [← hHe] at hP
  have hS : va_S A s.heap H [] := by rw [hHe]; exact va_S.rf
  suffices h9 : W p l e rm_k_init_out s m args below meth c H [] 0 0 Q (F0 m 0 ls []) by rw [hHe] at h9; exact h9
  clear hHe
  refine lv_aload_n hx hb dM_init_0 rfl (lv_at hl 0 rfl) ?_
  refine W.objInit hx hb hown (hts (.methodLink RM 1 objectInit) (by decide +kernel)) (hts (.instanceMethod objectInit) (by decide +kernel)) (hts (.code objectInit ⟨#[0xb1]⟩ 1 none) (by decide +kernel)) rfl (by rw [hml]; exact hl.1) rfl dM_init_1 (Nat.le_of_ble_eq_true rfl) (Nat.le_of_ble_eq_true rfl) ?_
  refine W.eq (g2 := F0 m 4 ls []) rfl ?_
  refine lv_aload_n hx hb dM_init_4 rfl (lv_at hl 0 rfl) ?_
  refine lv_sipush (v := nI 300) hx hb dM_init_5 (by decide) ?_
  refine ar_newI (N' := 300) hx hb (hts (.arrayClass .int) (by decide +kernel)) hK hP hD hS hA dM_init_8 (by omega) (show 0 + 1 ≤ 10 by omega) (show 0 + 300 ≤ 13631 by omega) (fun q8 H hP hD hS => ?_)
  have hP : va_P D vwCl [(o, .inr (3, [.int 0, .int 0, .null, .null, .null, .null, .null, .null, .null, .null, .null, .null])), (q8, .inl (cI, 300, .inl (fun _ => 0)))] H := hP
  have hD : va_D A [(o, .inr (3, [.int 0, .int 0, .null, .null, .null, .null, .null, .null, .null, .null, .null, .null])), (q8, .inl (cI, 300, .inl (fun _ => 0)))] := hD
  refine va_putF (D := D) (ci := 3) (v := .ref q8) (ty := .array .int) (C := RM) (T := TM) (N := 12) hx hb hts iM_init_M tyM tyM_ok nmM hown hK hP hD hS 0 rfl rfl 2 (by decide) (hts (.fieldLink RM 7 "TreeDeskModel" "parent" "[I") (by decide +kernel)) (fun _ h9 => h9) rfl hin rfl (by decide +kernel) rfl rfl (Nat.le_of_ble_eq_true rfl) dM_init_10 (fun H locs hP hD hS => ?_)
  have hP : va_P D vwCl [(o, .inr (3, [.int 0, .int 0, .ref q8, .null, .null, .null, .null, .null, .null, .null, .null, .null])), (q8, .inl (cI, 300, .inl (fun _ => 0)))] H := hP
  have hD : va_D A [(o, .inr (3, [.int 0, .int 0, .ref q8, .null, .null, .null, .null, .null, .null, .null, .null, .null])), (q8, .inl (cI, 300, .inl (fun _ => 0)))] := hD
  refine lv_aload_n hx hb dM_init_13 rfl (lv_at hl 0 rfl) ?_
  refine lv_sipush (v := nI 300) hx hb dM_init_14 (by decide) ?_
  refine ar_newI (N' := 300) hx hb (hts (.arrayClass .int) (by decide +kernel)) hK hP hD hS hA dM_init_17 (by omega) (show 1 + 1 ≤ 10 by omega) (show 0 + 300 + 300 ≤ 13631 by omega) (fun q17 H hP hD hS => ?_)
  have hP : va_P D vwCl [(o, .inr (3, [.int 0, .int 0, .ref q8, .null, .null, .null, .null, .null, .null, .null, .null, .null])), (q8, .inl (cI, 300, .inl (fun _ => 0))), (q17, .inl (cI, 300, .inl (fun _ => 0)))] H := hP
  have hD : va_D A [(o, .inr (3, [.int 0, .int 0, .ref q8, .null, .null, .null, .null, .null, .null, .null, .null, .null])), (q8, .inl (cI, 300, .inl (fun _ => 0))), (q17, .inl (cI, 300, .inl (fun _ => 0)))] := hD
  refine va_putF (D := D) (ci := 3) (v := .ref q17) (ty := .array .int) (C := RM) (T := TM) (N := 12) hx hb hts iM_init_M tyM tyM_ok nmM hown hK hP hD hS 0 rfl rfl 3 (by decide) (hts (.fieldLink RM 13 "TreeDeskModel" "height" "[I") (by decide +kernel)) (fun _ h9 => h9) rfl hin rfl (by decide +kernel) rfl rfl (Nat.le_of_ble_eq_true rfl) dM_init_19 (fun H locs hP hD hS => ?_)
  have hP : va_P D vwCl [(o, .inr (3, [.int 0, .int 0, .ref q8, .ref q17, .null, .null, .null, .null, .null, .null, .null, .null])), (q8, .inl (cI, 300, .inl (fun _ => 0))), (q17, .inl (cI, 300, .inl (fun _ => 0)))] H := hP
  have hD : va_D A [(o, .inr (3, [.int 0, .int 0, .ref q8, .ref q17, .null, .null, .null, .null, .null, .null, .null, .null])), (q8, .inl (cI, 300, .inl (fun _ => 0))), (q17, .inl (cI, 300, .inl (fun _ => 0)))] := hD
  refine lv_aload_n hx hb dM_init_22 rfl (lv_at hl 0 rfl) ?_
  refine lv_sipush (v := nI 300) hx hb dM_init_23 (by decide) ?_
  refine ar_newJ (N' := 300) hx hb (hts (.arrayClass .long) (by decide +kernel)) hK hP hD hS hA dM_init_26 (by omega) (show 2 + 1 ≤ 10 by omega) (show 0 + 300 + 300 + 300 ≤ 13631 by omega) (fun q26 H hP hD hS => ?_)
  have hP : va_P D vwCl [(o, .inr (3, [.int 0, .int 0, .ref q8, .ref q17, .null, .null, .null, .null, .null, .null, .null, .null])), (q8, .inl (cI, 300, .inl (fun _ => 0))), (q17, .inl (cI, 300, .inl (fun _ => 0))), (q26, .inl (cJ, 300, .inr (.inl (fun _ => 0))))] H := hP
  have hD : va_D A [(o, .inr (3, [.int 0, .int 0, .ref q8, .ref q17, .null, .null, .null, .null, .null, .null, .null, .null])), (q8, .inl (cI, 300, .inl (fun _ => 0))), (q17, .inl (cI, 300, .inl (fun _ => 0))), (q26, .inl (cJ, 300, .inr (.inl (fun _ => 0))))] := hD
  refine va_putF (D := D) (ci := 3) (v := .ref q26) (ty := .array .long) (C := RM) (T := TM) (N := 12) hx hb hts iM_init_M tyM tyM_ok nmM hown hK hP hD hS 0 rfl rfl 4 (by decide) (hts (.fieldLink RM 16 "TreeDeskModel" "time" "[J") (by decide +kernel)) (fun _ h9 => h9) rfl hin rfl (by decide +kernel) rfl rfl (Nat.le_of_ble_eq_true rfl) dM_init_28 (fun H locs hP hD hS => ?_)
  have hP : va_P D vwCl [(o, .inr (3, [.int 0, .int 0, .ref q8, .ref q17, .ref q26, .null, .null, .null, .null, .null, .null, .null])), (q8, .inl (cI, 300, .inl (fun _ => 0))), (q17, .inl (cI, 300, .inl (fun _ => 0))), (q26, .inl (cJ, 300, .inr (.inl (fun _ => 0))))] H := hP
  have hD : va_D A [(o, .inr (3, [.int 0, .int 0, .ref q8, .ref q17, .ref q26, .null, .null, .null, .null, .null, .null, .null])), (q8, .inl (cI, 300, .inl (fun _ => 0))), (q17, .inl (cI, 300, .inl (fun _ => 0))), (q26, .inl (cJ, 300, .inr (.inl (fun _ => 0))))] := hD
  refine lv_aload_n hx hb dM_init_31 rfl (lv_at hl 0 rfl) ?_
  refine lv_sipush (v := nI 300) hx hb dM_init_32 (by decide) ?_
  refine ar_newJ (N' := 300) hx hb (hts (.arrayClass .long) (by decide +kernel)) hK hP hD hS hA dM_init_35 (by omega) (show 3 + 1 ≤ 10 by omega) (show 0 + 300 + 300 + 300 + 300 ≤ 13631 by omega) (fun q35 H hP hD hS => ?_)
  have hP : va_P D vwCl [(o, .inr (3, [.int 0, .int 0, .ref q8, .ref q17, .ref q26, .null, .null, .null, .null, .null, .null, .null])), (q8, .inl (cI, 300, .inl (fun _ => 0))), (q17, .inl (cI, 300, .inl (fun _ => 0))), (q26, .inl (cJ, 300, .inr (.inl (fun _ => 0)))), (q35, .inl (cJ, 300, .inr (.inl (fun _ => 0))))] H := hP
  have hD : va_D A [(o, .inr (3, [.int 0, .int 0, .ref q8, .ref q17, .ref q26, .null, .null, .null, .null, .null, .null, .null])), (q8, .inl (cI, 300, .inl (fun _ => 0))), (q17, .inl (cI, 300, .inl (fun _ => 0))), (q26, .inl (cJ, 300, .inr (.inl (fun _ => 0)))), (q35, .inl (cJ, 300, .inr (.inl (fun _ => 0))))] := hD
  refine va_putF (D := D) (ci := 3) (v := .ref q35) (ty := .array .long) (C := RM) (T := TM) (N := 12) hx hb hts iM_init_M tyM tyM_ok nmM hown hK hP hD hS 0 rfl rfl 5 (by decide) (hts (.fieldLink RM 20 "TreeDeskModel" "bits" "[J") (by decide +kernel)) (fun _ h9 => h9) rfl hin rfl (by decide +kernel) rfl rfl (Nat.le_of_ble_eq_true rfl) dM_init_37 (fun H locs hP hD hS => ?_)
  have hP : va_P D vwCl [(o, .inr (3, [.int 0, .int 0, .ref q8, .ref q17, .ref q26, .ref q35, .null, .null, .null, .null, .null, .null])), (q8, .inl (cI, 300, .inl (fun _ => 0))), (q17, .inl (cI, 300, .inl (fun _ => 0))), (q26, .inl (cJ, 300, .inr (.inl (fun _ => 0)))), (q35, .inl (cJ, 300, .inr (.inl (fun _ => 0))))] H := hP
  have hD : va_D A [(o, .inr (3, [.int 0, .int 0, .ref q8, .ref q17, .ref q26, .ref q35, .null, .null, .null, .null, .null, .null])), (q8, .inl (cI, 300, .inl (fun _ => 0))), (q17, .inl (cI, 300, .inl (fun _ => 0))), (q26, .inl (cJ, 300, .inr (.inl (fun _ => 0)))), (q35, .inl (cJ, 300, .inr (.inl (fun _ => 0))))] := hD
  refine lv_aload_n hx hb dM_init_40 rfl (lv_at hl 0 rfl) ?_
  refine lv_sipush (v := nI 300) hx hb dM_init_41 (by decide) ?_
  refine ar_newZ (N' := 300) hx hb (hts (.arrayClass .boolean) (by decide +kernel)) hK hP hD hS hA dM_init_44 (by omega) (show 4 + 1 ≤ 10 by omega) (show 0 + 300 + 300 + 300 + 300 + 300 ≤ 13631 by omega) (fun q44 H hP hD hS => ?_)
  have hP : va_P D vwCl [(o, .inr (3, [.int 0, .int 0, .ref q8, .ref q17, .ref q26, .ref q35, .null, .null, .null, .null, .null, .null])), (q8, .inl (cI, 300, .inl (fun _ => 0))), (q17, .inl (cI, 300, .inl (fun _ => 0))), (q26, .inl (cJ, 300, .inr (.inl (fun _ => 0)))), (q35, .inl (cJ, 300, .inr (.inl (fun _ => 0)))), (q44, .inl (cZ, 300, .inl (fun _ => 0)))] H := hP
  have hD : va_D A [(o, .inr (3, [.int 0, .int 0, .ref q8, .ref q17, .ref q26, .ref q35, .null, .null, .null, .null, .null, .null])), (q8, .inl (cI, 300, .inl (fun _ => 0))), (q17, .inl (cI, 300, .inl (fun _ => 0))), (q26, .inl (cJ, 300, .inr (.inl (fun _ => 0)))), (q35, .inl (cJ, 300, .inr (.inl (fun _ => 0)))), (q44, .inl (cZ, 300, .inl (fun _ => 0)))] := hD
  refine va_putF (D := D) (ci := 3) (v := .ref q44) (ty := .array .boolean) (C := RM) (T := TM) (N := 12) hx hb hts iM_init_M tyM tyM_ok nmM hown hK hP hD hS 0 rfl rfl 6 (by decide) (hts (.fieldLink RM 23 "TreeDeskModel" "bad" "[Z") (by decide +kernel)) (fun _ h9 => h9) rfl hin rfl (by decide +kernel) rfl rfl (Nat.le_of_ble_eq_true rfl) dM_init_46 (fun H locs hP hD hS => ?_)
  have hP : va_P D vwCl [(o, .inr (3, [.int 0, .int 0, .ref q8, .ref q17, .ref q26, .ref q35, .ref q44, .null, .null, .null, .null, .null])), (q8, .inl (cI, 300, .inl (fun _ => 0))), (q17, .inl (cI, 300, .inl (fun _ => 0))), (q26, .inl (cJ, 300, .inr (.inl (fun _ => 0)))), (q35, .inl (cJ, 300, .inr (.inl (fun _ => 0)))), (q44, .inl (cZ, 300, .inl (fun _ => 0)))] H := hP
  have hD : va_D A [(o, .inr (3, [.int 0, .int 0, .ref q8, .ref q17, .ref q26, .ref q35, .ref q44, .null, .null, .null, .null, .null])), (q8, .inl (cI, 300, .inl (fun _ => 0))), (q17, .inl (cI, 300, .inl (fun _ => 0))), (q26, .inl (cJ, 300, .inr (.inl (fun _ => 0)))), (q35, .inl (cJ, 300, .inr (.inl (fun _ => 0)))), (q44, .inl (cZ, 300, .inl (fun _ => 0)))] := hD
  refine lv_aload_n hx hb dM_init_49 rfl (lv_at hl 0 rfl) ?_
  refine lv_sipush (v := nI 12000) hx hb dM_init_50 (by decide) ?_
  refine ar_newI (N' := 12000) hx hb (hts (.arrayClass .int) (by decide +kernel)) hK hP hD hS hA dM_init_53 (by omega) (show 5 + 1 ≤ 10 by omega) (show 0 + 300 + 300 + 300 + 300 + 300 + 12000 ≤ 13631 by omega) (fun q53 H hP hD hS => ?_)
  have hP : va_P D vwCl [(o, .inr (3, [.int 0, .int 0, .ref q8, .ref q17, .ref q26, .ref q35, .ref q44, .null, .null, .null, .null, .null])), (q8, .inl (cI, 300, .inl (fun _ => 0))), (q17, .inl (cI, 300, .inl (fun _ => 0))), (q26, .inl (cJ, 300, .inr (.inl (fun _ => 0)))), (q35, .inl (cJ, 300, .inr (.inl (fun _ => 0)))), (q44, .inl (cZ, 300, .inl (fun _ => 0))), (q53, .inl (cI, 12000, .inl (fun _ => 0)))] H := hP
  have hD : va_D A [(o, .inr (3, [.int 0, .int 0, .ref q8, .ref q17, .ref q26, .ref q35, .ref q44, .null, .null, .null, .null, .null])), (q8, .inl (cI, 300, .inl (fun _ => 0))), (q17, .inl (cI, 300, .inl (fun _ => 0))), (q26, .inl (cJ, 300, .inr (.inl (fun _ => 0)))), (q35, .inl (cJ, 300, .inr (.inl (fun _ => 0)))), (q44, .inl (cZ, 300, .inl (fun _ => 0))), (q53, .inl (cI, 12000, .inl (fun _ => 0)))] := hD
  refine va_putF (D := D) (ci := 3) (v := .ref q53) (ty := .array .int) (C := RM) (T := TM) (N := 12) hx hb hts iM_init_M tyM tyM_ok nmM hown hK hP hD hS 0 rfl rfl 7 (by decide) (hts (.fieldLink RM 27 "TreeDeskModel" "sums" "[I") (by decide +kernel)) (fun _ h9 => h9) rfl hin rfl (by decide +kernel) rfl rfl (Nat.le_of_ble_eq_true rfl) dM_init_55 (fun H locs hP hD hS => ?_)
  have hP : va_P D vwCl [(o, .inr (3, [.int 0, .int 0, .ref q8, .ref q17, .ref q26, .ref q35, .ref q44, .ref q53, .null, .null, .null, .null])), (q8, .inl (cI, 300, .inl (fun _ => 0))), (q17, .inl (cI, 300, .inl (fun _ => 0))), (q26, .inl (cJ, 300, .inr (.inl (fun _ => 0)))), (q35, .inl (cJ, 300, .inr (.inl (fun _ => 0)))), (q44, .inl (cZ, 300, .inl (fun _ => 0))), (q53, .inl (cI, 12000, .inl (fun _ => 0)))] H := hP
  have hD : va_D A [(o, .inr (3, [.int 0, .int 0, .ref q8, .ref q17, .ref q26, .ref q35, .ref q44, .ref q53, .null, .null, .null, .null])), (q8, .inl (cI, 300, .inl (fun _ => 0))), (q17, .inl (cI, 300, .inl (fun _ => 0))), (q26, .inl (cJ, 300, .inr (.inl (fun _ => 0)))), (q35, .inl (cJ, 300, .inr (.inl (fun _ => 0)))), (q44, .inl (cZ, 300, .inl (fun _ => 0))), (q53, .inl (cI, 12000, .inl (fun _ => 0)))] := hD
  refine lv_aload_n hx hb dM_init_58 rfl (lv_at hl 0 rfl) ?_
  refine lv_bipush (v := nI 40) hx hb dM_init_59 (by decide) ?_
  refine ar_newI (N' := 40) hx hb (hts (.arrayClass .int) (by decide +kernel)) hK hP hD hS hA dM_init_61 (by omega) (show 6 + 1 ≤ 10 by omega) (show 0 + 300 + 300 + 300 + 300 + 300 + 12000 + 40 ≤ 13631 by omega) (fun q61 H hP hD hS => ?_)
  have hP : va_P D vwCl [(o, .inr (3, [.int 0, .int 0, .ref q8, .ref q17, .ref q26, .ref q35, .ref q44, .ref q53, .null, .null, .null, .null])), (q8, .inl (cI, 300, .inl (fun _ => 0))), (q17, .inl (cI, 300, .inl (fun _ => 0))), (q26, .inl (cJ, 300, .inr (.inl (fun _ => 0)))), (q35, .inl (cJ, 300, .inr (.inl (fun _ => 0)))), (q44, .inl (cZ, 300, .inl (fun _ => 0))), (q53, .inl (cI, 12000, .inl (fun _ => 0))), (q61, .inl (cI, 40, .inl (fun _ => 0)))] H := hP
  have hD : va_D A [(o, .inr (3, [.int 0, .int 0, .ref q8, .ref q17, .ref q26, .ref q35, .ref q44, .ref q53, .null, .null, .null, .null])), (q8, .inl (cI, 300, .inl (fun _ => 0))), (q17, .inl (cI, 300, .inl (fun _ => 0))), (q26, .inl (cJ, 300, .inr (.inl (fun _ => 0)))), (q35, .inl (cJ, 300, .inr (.inl (fun _ => 0)))), (q44, .inl (cZ, 300, .inl (fun _ => 0))), (q53, .inl (cI, 12000, .inl (fun _ => 0))), (q61, .inl (cI, 40, .inl (fun _ => 0)))] := hD
  refine va_putF (D := D) (ci := 3) (v := .ref q61) (ty := .array .int) (C := RM) (T := TM) (N := 12) hx hb hts iM_init_M tyM tyM_ok nmM hown hK hP hD hS 0 rfl rfl 8 (by decide) (hts (.fieldLink RM 30 "TreeDeskModel" "a" "[I") (by decide +kernel)) (fun _ h9 => h9) rfl hin rfl (by decide +kernel) rfl rfl (Nat.le_of_ble_eq_true rfl) dM_init_63 (fun H locs hP hD hS => ?_)
  have hP : va_P D vwCl [(o, .inr (3, [.int 0, .int 0, .ref q8, .ref q17, .ref q26, .ref q35, .ref q44, .ref q53, .ref q61, .null, .null, .null])), (q8, .inl (cI, 300, .inl (fun _ => 0))), (q17, .inl (cI, 300, .inl (fun _ => 0))), (q26, .inl (cJ, 300, .inr (.inl (fun _ => 0)))), (q35, .inl (cJ, 300, .inr (.inl (fun _ => 0)))), (q44, .inl (cZ, 300, .inl (fun _ => 0))), (q53, .inl (cI, 12000, .inl (fun _ => 0))), (q61, .inl (cI, 40, .inl (fun _ => 0)))] H := hP
  have hD : va_D A [(o, .inr (3, [.int 0, .int 0, .ref q8, .ref q17, .ref q26, .ref q35, .ref q44, .ref q53, .ref q61, .null, .null, .null])), (q8, .inl (cI, 300, .inl (fun _ => 0))), (q17, .inl (cI, 300, .inl (fun _ => 0))), (q26, .inl (cJ, 300, .inr (.inl (fun _ => 0)))), (q35, .inl (cJ, 300, .inr (.inl (fun _ => 0)))), (q44, .inl (cZ, 300, .inl (fun _ => 0))), (q53, .inl (cI, 12000, .inl (fun _ => 0))), (q61, .inl (cI, 40, .inl (fun _ => 0)))] := hD
  refine lv_aload_n hx hb dM_init_66 rfl (lv_at hl 0 rfl) ?_
  refine lv_bipush (v := nI 40) hx hb dM_init_67 (by decide) ?_
  refine ar_newI (N' := 40) hx hb (hts (.arrayClass .int) (by decide +kernel)) hK hP hD hS hA dM_init_69 (by omega) (show 7 + 1 ≤ 10 by omega) (show 0 + 300 + 300 + 300 + 300 + 300 + 12000 + 40 + 40 ≤ 13631 by omega) (fun q69 H hP hD hS => ?_)
  have hP : va_P D vwCl [(o, .inr (3, [.int 0, .int 0, .ref q8, .ref q17, .ref q26, .ref q35, .ref q44, .ref q53, .ref q61, .null, .null, .null])), (q8, .inl (cI, 300, .inl (fun _ => 0))), (q17, .inl (cI, 300, .inl (fun _ => 0))), (q26, .inl (cJ, 300, .inr (.inl (fun _ => 0)))), (q35, .inl (cJ, 300, .inr (.inl (fun _ => 0)))), (q44, .inl (cZ, 300, .inl (fun _ => 0))), (q53, .inl (cI, 12000, .inl (fun _ => 0))), (q61, .inl (cI, 40, .inl (fun _ => 0))), (q69, .inl (cI, 40, .inl (fun _ => 0)))] H := hP
  have hD : va_D A [(o, .inr (3, [.int 0, .int 0, .ref q8, .ref q17, .ref q26, .ref q35, .ref q44, .ref q53, .ref q61, .null, .null, .null])), (q8, .inl (cI, 300, .inl (fun _ => 0))), (q17, .inl (cI, 300, .inl (fun _ => 0))), (q26, .inl (cJ, 300, .inr (.inl (fun _ => 0)))), (q35, .inl (cJ, 300, .inr (.inl (fun _ => 0)))), (q44, .inl (cZ, 300, .inl (fun _ => 0))), (q53, .inl (cI, 12000, .inl (fun _ => 0))), (q61, .inl (cI, 40, .inl (fun _ => 0))), (q69, .inl (cI, 40, .inl (fun _ => 0)))] := hD
  refine va_putF (D := D) (ci := 3) (v := .ref q69) (ty := .array .int) (C := RM) (T := TM) (N := 12) hx hb hts iM_init_M tyM tyM_ok nmM hown hK hP hD hS 0 rfl rfl 9 (by decide) (hts (.fieldLink RM 33 "TreeDeskModel" "b" "[I") (by decide +kernel)) (fun _ h9 => h9) rfl hin rfl (by decide +kernel) rfl rfl (Nat.le_of_ble_eq_true rfl) dM_init_71 (fun H locs hP hD hS => ?_)
  have hP : va_P D vwCl [(o, .inr (3, [.int 0, .int 0, .ref q8, .ref q17, .ref q26, .ref q35, .ref q44, .ref q53, .ref q61, .ref q69, .null, .null])), (q8, .inl (cI, 300, .inl (fun _ => 0))), (q17, .inl (cI, 300, .inl (fun _ => 0))), (q26, .inl (cJ, 300, .inr (.inl (fun _ => 0)))), (q35, .inl (cJ, 300, .inr (.inl (fun _ => 0)))), (q44, .inl (cZ, 300, .inl (fun _ => 0))), (q53, .inl (cI, 12000, .inl (fun _ => 0))), (q61, .inl (cI, 40, .inl (fun _ => 0))), (q69, .inl (cI, 40, .inl (fun _ => 0)))] H := hP
  have hD : va_D A [(o, .inr (3, [.int 0, .int 0, .ref q8, .ref q17, .ref q26, .ref q35, .ref q44, .ref q53, .ref q61, .ref q69, .null, .null])), (q8, .inl (cI, 300, .inl (fun _ => 0))), (q17, .inl (cI, 300, .inl (fun _ => 0))), (q26, .inl (cJ, 300, .inr (.inl (fun _ => 0)))), (q35, .inl (cJ, 300, .inr (.inl (fun _ => 0)))), (q44, .inl (cZ, 300, .inl (fun _ => 0))), (q53, .inl (cI, 12000, .inl (fun _ => 0))), (q61, .inl (cI, 40, .inl (fun _ => 0))), (q69, .inl (cI, 40, .inl (fun _ => 0)))] := hD
  refine lv_aload_n hx hb dM_init_74 rfl (lv_at hl 0 rfl) ?_
  refine lv_bipush (v := nI 40) hx hb dM_init_75 (by decide) ?_
  refine ar_newI (N' := 40) hx hb (hts (.arrayClass .int) (by decide +kernel)) hK hP hD hS hA dM_init_77 (by omega) (show 8 + 1 ≤ 10 by omega) (show 0 + 300 + 300 + 300 + 300 + 300 + 12000 + 40 + 40 + 40 ≤ 13631 by omega) (fun q77 H hP hD hS => ?_)
  have hP : va_P D vwCl [(o, .inr (3, [.int 0, .int 0, .ref q8, .ref q17, .ref q26, .ref q35, .ref q44, .ref q53, .ref q61, .ref q69, .null, .null])), (q8, .inl (cI, 300, .inl (fun _ => 0))), (q17, .inl (cI, 300, .inl (fun _ => 0))), (q26, .inl (cJ, 300, .inr (.inl (fun _ => 0)))), (q35, .inl (cJ, 300, .inr (.inl (fun _ => 0)))), (q44, .inl (cZ, 300, .inl (fun _ => 0))), (q53, .inl (cI, 12000, .inl (fun _ => 0))), (q61, .inl (cI, 40, .inl (fun _ => 0))), (q69, .inl (cI, 40, .inl (fun _ => 0))), (q77, .inl (cI, 40, .inl (fun _ => 0)))] H := hP
  have hD : va_D A [(o, .inr (3, [.int 0, .int 0, .ref q8, .ref q17, .ref q26, .ref q35, .ref q44, .ref q53, .ref q61, .ref q69, .null, .null])), (q8, .inl (cI, 300, .inl (fun _ => 0))), (q17, .inl (cI, 300, .inl (fun _ => 0))), (q26, .inl (cJ, 300, .inr (.inl (fun _ => 0)))), (q35, .inl (cJ, 300, .inr (.inl (fun _ => 0)))), (q44, .inl (cZ, 300, .inl (fun _ => 0))), (q53, .inl (cI, 12000, .inl (fun _ => 0))), (q61, .inl (cI, 40, .inl (fun _ => 0))), (q69, .inl (cI, 40, .inl (fun _ => 0))), (q77, .inl (cI, 40, .inl (fun _ => 0)))] := hD
  refine va_putF (D := D) (ci := 3) (v := .ref q77) (ty := .array .int) (C := RM) (T := TM) (N := 12) hx hb hts iM_init_M tyM tyM_ok nmM hown hK hP hD hS 0 rfl rfl 10 (by decide) (hts (.fieldLink RM 36 "TreeDeskModel" "c" "[I") (by decide +kernel)) (fun _ h9 => h9) rfl hin rfl (by decide +kernel) rfl rfl (Nat.le_of_ble_eq_true rfl) dM_init_79 (fun H locs hP hD hS => ?_)
  have hP : va_P D vwCl [(o, .inr (3, [.int 0, .int 0, .ref q8, .ref q17, .ref q26, .ref q35, .ref q44, .ref q53, .ref q61, .ref q69, .ref q77, .null])), (q8, .inl (cI, 300, .inl (fun _ => 0))), (q17, .inl (cI, 300, .inl (fun _ => 0))), (q26, .inl (cJ, 300, .inr (.inl (fun _ => 0)))), (q35, .inl (cJ, 300, .inr (.inl (fun _ => 0)))), (q44, .inl (cZ, 300, .inl (fun _ => 0))), (q53, .inl (cI, 12000, .inl (fun _ => 0))), (q61, .inl (cI, 40, .inl (fun _ => 0))), (q69, .inl (cI, 40, .inl (fun _ => 0))), (q77, .inl (cI, 40, .inl (fun _ => 0)))] H := hP
  have hD : va_D A [(o, .inr (3, [.int 0, .int 0, .ref q8, .ref q17, .ref q26, .ref q35, .ref q44, .ref q53, .ref q61, .ref q69, .ref q77, .null])), (q8, .inl (cI, 300, .inl (fun _ => 0))), (q17, .inl (cI, 300, .inl (fun _ => 0))), (q26, .inl (cJ, 300, .inr (.inl (fun _ => 0)))), (q35, .inl (cJ, 300, .inr (.inl (fun _ => 0)))), (q44, .inl (cZ, 300, .inl (fun _ => 0))), (q53, .inl (cI, 12000, .inl (fun _ => 0))), (q61, .inl (cI, 40, .inl (fun _ => 0))), (q69, .inl (cI, 40, .inl (fun _ => 0))), (q77, .inl (cI, 40, .inl (fun _ => 0)))] := hD
  refine lv_aload_n hx hb dM_init_82 rfl (lv_at hl 0 rfl) ?_
  refine lv_bipush (v := nI 11) hx hb dM_init_83 (by decide) ?_
  refine ar_newJ (N' := 11) hx hb (hts (.arrayClass .long) (by decide +kernel)) hK hP hD hS hA dM_init_85 (by omega) (show 9 + 1 ≤ 10 by omega) (show 0 + 300 + 300 + 300 + 300 + 300 + 12000 + 40 + 40 + 40 + 11 ≤ 13631 by omega) (fun q85 H hP hD hS => ?_)
  have hP : va_P D vwCl [(o, .inr (3, [.int 0, .int 0, .ref q8, .ref q17, .ref q26, .ref q35, .ref q44, .ref q53, .ref q61, .ref q69, .ref q77, .null])), (q8, .inl (cI, 300, .inl (fun _ => 0))), (q17, .inl (cI, 300, .inl (fun _ => 0))), (q26, .inl (cJ, 300, .inr (.inl (fun _ => 0)))), (q35, .inl (cJ, 300, .inr (.inl (fun _ => 0)))), (q44, .inl (cZ, 300, .inl (fun _ => 0))), (q53, .inl (cI, 12000, .inl (fun _ => 0))), (q61, .inl (cI, 40, .inl (fun _ => 0))), (q69, .inl (cI, 40, .inl (fun _ => 0))), (q77, .inl (cI, 40, .inl (fun _ => 0))), (q85, .inl (cJ, 11, .inr (.inl (fun _ => 0))))] H := hP
  have hD : va_D A [(o, .inr (3, [.int 0, .int 0, .ref q8, .ref q17, .ref q26, .ref q35, .ref q44, .ref q53, .ref q61, .ref q69, .ref q77, .null])), (q8, .inl (cI, 300, .inl (fun _ => 0))), (q17, .inl (cI, 300, .inl (fun _ => 0))), (q26, .inl (cJ, 300, .inr (.inl (fun _ => 0)))), (q35, .inl (cJ, 300, .inr (.inl (fun _ => 0)))), (q44, .inl (cZ, 300, .inl (fun _ => 0))), (q53, .inl (cI, 12000, .inl (fun _ => 0))), (q61, .inl (cI, 40, .inl (fun _ => 0))), (q69, .inl (cI, 40, .inl (fun _ => 0))), (q77, .inl (cI, 40, .inl (fun _ => 0))), (q85, .inl (cJ, 11, .inr (.inl (fun _ => 0))))] := hD
  refine va_putF (D := D) (ci := 3) (v := .ref q85) (ty := .array .long) (C := RM) (T := TM) (N := 12) hx hb hts iM_init_M tyM tyM_ok nmM hown hK hP hD hS 0 rfl rfl 11 (by decide) (hts (.fieldLink RM 39 "TreeDeskModel" "times" "[J") (by decide +kernel)) (fun _ h9 => h9) rfl hin rfl (by decide +kernel) rfl rfl (Nat.le_of_ble_eq_true rfl) dM_init_87 (fun H locs hP hD hS => ?_)
  have hP : va_P D vwCl [(o, .inr (3, [.int 0, .int 0, .ref q8, .ref q17, .ref q26, .ref q35, .ref q44, .ref q53, .ref q61, .ref q69, .ref q77, .ref q85])), (q8, .inl (cI, 300, .inl (fun _ => 0))), (q17, .inl (cI, 300, .inl (fun _ => 0))), (q26, .inl (cJ, 300, .inr (.inl (fun _ => 0)))), (q35, .inl (cJ, 300, .inr (.inl (fun _ => 0)))), (q44, .inl (cZ, 300, .inl (fun _ => 0))), (q53, .inl (cI, 12000, .inl (fun _ => 0))), (q61, .inl (cI, 40, .inl (fun _ => 0))), (q69, .inl (cI, 40, .inl (fun _ => 0))), (q77, .inl (cI, 40, .inl (fun _ => 0))), (q85, .inl (cJ, 11, .inr (.inl (fun _ => 0))))] H := hP
  have hD : va_D A [(o, .inr (3, [.int 0, .int 0, .ref q8, .ref q17, .ref q26, .ref q35, .ref q44, .ref q53, .ref q61, .ref q69, .ref q77, .ref q85])), (q8, .inl (cI, 300, .inl (fun _ => 0))), (q17, .inl (cI, 300, .inl (fun _ => 0))), (q26, .inl (cJ, 300, .inr (.inl (fun _ => 0)))), (q35, .inl (cJ, 300, .inr (.inl (fun _ => 0)))), (q44, .inl (cZ, 300, .inl (fun _ => 0))), (q53, .inl (cI, 12000, .inl (fun _ => 0))), (q61, .inl (cI, 40, .inl (fun _ => 0))), (q69, .inl (cI, 40, .inl (fun _ => 0))), (q77, .inl (cI, 40, .inl (fun _ => 0))), (q85, .inl (cJ, 11, .inr (.inl (fun _ => 0))))] := hD
  rw [nF_z] at hP hD
  refine lv_aload_n hx hb dM_init_90 rfl (lv_at hl 0 rfl) ?_
  refine lv_iload_n hx hb dM_init_91 rfl (lv_at hl 1 rfl) ?_
  refine lv_iconst (v := nI 2) hx hb dM_init_92 (by decide) ?_
  refine lv_icmp_lt (tgt := 107) hx hb dM_init_93 (by decide) (fun c_93 => ?_) (fun c_93 => ?_)
  · skip
    refine lv_bipush (v := nI 100) hx hb dM_init_107 (by decide) ?_
    refine va_putF (D := D) (ci := 3) (v := .int (nI 100)) (ty := .int) (C := RM) (T := TM) (N := 12) hx hb hts iM_init_M tyM tyM_ok nmM hown hK hP hD hS 0 rfl rfl 0 (by decide) (hts (.fieldLink RM 42 "TreeDeskModel" "most" "I") (by decide +kernel)) (fun _ h9 => h9) rfl hin rfl (by decide +kernel) rfl rfl (Nat.le_of_ble_eq_true rfl) dM_init_109 (fun H locs hP hD hS => ?_)
    have hP : va_P D vwCl [(o, .inr (3, [.int (nI 100), .int 0, .ref q8, .ref q17, .ref q26, .ref q35, .ref q44, .ref q53, .ref q61, .ref q69, .ref q77, .ref q85])), (q8, .inl (cI, 300, .inl (nF z0))), (q17, .inl (cI, 300, .inl (nF z0))), (q26, .inl (cJ, 300, .inr (.inl (fun _ => 0)))), (q35, .inl (cJ, 300, .inr (.inl (fun _ => 0)))), (q44, .inl (cZ, 300, .inl (nF z0))), (q53, .inl (cI, 12000, .inl (nF z0))), (q61, .inl (cI, 40, .inl (nF z0))), (q69, .inl (cI, 40, .inl (nF z0))), (q77, .inl (cI, 40, .inl (nF z0))), (q85, .inl (cJ, 11, .inr (.inl (fun _ => 0))))] H := hP
    have hD : va_D A [(o, .inr (3, [.int (nI 100), .int 0, .ref q8, .ref q17, .ref q26, .ref q35, .ref q44, .ref q53, .ref q61, .ref q69, .ref q77, .ref q85])), (q8, .inl (cI, 300, .inl (nF z0))), (q17, .inl (cI, 300, .inl (nF z0))), (q26, .inl (cJ, 300, .inr (.inl (fun _ => 0)))), (q35, .inl (cJ, 300, .inr (.inl (fun _ => 0)))), (q44, .inl (cZ, 300, .inl (nF z0))), (q53, .inl (cI, 12000, .inl (nF z0))), (q61, .inl (cI, 40, .inl (nF z0))), (q69, .inl (cI, 40, .inl (nF z0))), (q77, .inl (cI, 40, .inl (nF z0))), (q85, .inl (cJ, 11, .inr (.inl (fun _ => 0))))] := hD
    refine lv_aload_n hx hb dM_init_112 rfl (lv_at hl 0 rfl) ?_
    refine lv_iconst (v := (-1)) hx hb dM_init_113 (by decide) ?_
    refine lv_iload_n hx hb dM_init_114 rfl (lv_at hl 2 rfl) ?_
    refine lv_i2l (v := t.toInt64) hx hb dM_init_115 rfl ?_
    refine lv_ldc2 (v := 4294967295) hx hb hown (hts (.constantLong RM 46 4294967295) (by decide +kernel)) dM_init_116 ?_
    refine lv_land hx hb dM_init_119 ?_
    refine lv_ldc2 (v := 545259519) hx hb hown (hts (.constantLong RM 48 545259519) (by decide +kernel)) dM_init_120 ?_
    refine tp_l (y := lN 545259519) (by decide) ?_
    refine rw_k (wc := [(o, .inr (3, [.int (nI 100), .int 0, .ref q8, .ref q17, .ref q26, .ref q35, .ref q44, .ref q53, .ref q61, .ref q69, .ref q77, .ref q85])), (q8, .inl (cI, 300, .inl (nF z0))), (q17, .inl (cI, 300, .inl (nF z0))), (q26, .inl (cJ, 300, .inr (.inl (fun _ => 0)))), (q35, .inl (cJ, 300, .inr (.inl (fun _ => 0)))), (q44, .inl (cZ, 300, .inl (nF z0))), (q53, .inl (cI, 12000, .inl (nF z0))), (q61, .inl (cI, 40, .inl (nF z0))), (q69, .inl (cI, 40, .inl (nF z0))), (q77, .inl (cI, 40, .inl (nF z0)))]) (wr := [(q85, .inl (cJ, 11, .inr (.inl (fun _ => 0))))]) (va_runV (As := [.int (-1), .long (t.toInt64 &&& 4294967295), .long (lN 545259519)]) (rest := []) ⟨hx, hb, hml, hown, hts⟩ (k_join_root l D cI cJ cZ o 100 q8 q17 q26 q35 q44 q53 q61 q69 q77 q85 (t.toInt64 &&& 4294967295) H.size) (cwV 3 hts gM_init_M_join_50 rfl rfl rfl (by decide +kernel) ⟨Nat.le_of_ble_eq_true rfl, Nat.le_of_ble_eq_true rfl⟩) (rw_preV (hP.sub [0, 1, 2, 3, 4, 5, 6, 7, 8, 9] rfl) hK (hD.sub [0, 1, 2, 3, 4, 5, 6, 7, 8, 9] (by decide) rfl) (va_recv hK hP (ci := 3) (q0 := 0) rfl rfl)) rfl rfl hl.1 rfl (lv_room (Nat.le_of_ble_eq_true rfl)) dM_init_123 ⟨show 10 + 0 ≤ 10 by omega, show 0 + 300 + 300 + 300 + 300 + 300 + 12000 + 40 + 40 + 40 + 11 + 0 ≤ 13631 by omega⟩) hP hD hS hA [0, 1, 2, 3, 4, 5, 6, 7, 8, 9] [10] rfl rfl (by decide) (by decide) (fun v9 w9 H locs hp9 hP hD hS => ?_)
    obtain ⟨rfl, rfl⟩ := hp9
    have hP : va_P D vwCl [(q85, .inl (cJ, 11, .inr (.inl (fun _ => 0)))), (o, .inr (3, [.int (nI 100), .int (nI 1), .ref q8, .ref q17, .ref q26, .ref q35, .ref q44, .ref q53, .ref q61, .ref q69, .ref q77, .ref q85])), (q8, .inl (cI, 300, .inl (pF z0))), (q17, .inl (cI, 300, .inl (nF z0))), (q26, .inl (cJ, 300, .inr (.inl (vp_updL (fun _ => 0) 0 (t.toInt64 &&& 4294967295))))), (q35, .inl (cJ, 300, .inr (.inl (vp_updL (fun _ => 0) 0 (lN 545259519))))), (q44, .inl (cZ, 300, .inl (nF z0))), (q53, .inl (cI, 12000, .inl (nF (r_cpyL (r_quo (r_open 545259519 z0) z0 z0).1 40 0 0 z0)))), (q61, .inl (cI, 40, .inl (nF ((r_quo (r_open 545259519 z0) z0 z0).1)))), (q69, .inl (cI, 40, .inl (nF (r_inc (r_open 545259519 z0) z0)))), (q77, .inl (cI, 40, .inl (nF ((r_quo (r_open 545259519 z0) z0 z0).2))))] H := hP
    have hD : va_D A [(q85, .inl (cJ, 11, .inr (.inl (fun _ => 0)))), (o, .inr (3, [.int (nI 100), .int (nI 1), .ref q8, .ref q17, .ref q26, .ref q35, .ref q44, .ref q53, .ref q61, .ref q69, .ref q77, .ref q85])), (q8, .inl (cI, 300, .inl (pF z0))), (q17, .inl (cI, 300, .inl (nF z0))), (q26, .inl (cJ, 300, .inr (.inl (vp_updL (fun _ => 0) 0 (t.toInt64 &&& 4294967295))))), (q35, .inl (cJ, 300, .inr (.inl (vp_updL (fun _ => 0) 0 (lN 545259519))))), (q44, .inl (cZ, 300, .inl (nF z0))), (q53, .inl (cI, 12000, .inl (nF (r_cpyL (r_quo (r_open 545259519 z0) z0 z0).1 40 0 0 z0)))), (q61, .inl (cI, 40, .inl (nF ((r_quo (r_open 545259519 z0) z0 z0).1)))), (q69, .inl (cI, 40, .inl (nF (r_inc (r_open 545259519 z0) z0)))), (q77, .inl (cI, 40, .inl (nF ((r_quo (r_open 545259519 z0) z0 z0).2))))] := hD
    refine W.eq (g2 := F0 m 126 ls []) rfl ?_
    refine W.widen (k := 10) (n := 13631) (by omega) (by omega) ?_
    exact rw_vret (w := [(o, .inr (3, [.int (nI 100), .int (nI 1), .ref q8, .ref q17, .ref q26, .ref q35, .ref q44, .ref q53, .ref q61, .ref q69, .ref q77, .ref q85])), (q8, .inl (cI, 300, .inl (pF z0))), (q17, .inl (cI, 300, .inl (nF z0))), (q26, .inl (cJ, 300, .inr (.inl (vp_updL (fun _ => 0) 0 (t.toInt64 &&& 4294967295))))), (q35, .inl (cJ, 300, .inr (.inl (vp_updL (fun _ => 0) 0 (lN 545259519))))), (q44, .inl (cZ, 300, .inl (nF z0))), (q53, .inl (cI, 12000, .inl (nF (r_cpyL (r_quo (r_open 545259519 z0) z0 z0).1 40 0 0 z0)))), (q61, .inl (cI, 40, .inl (nF ((r_quo (r_open 545259519 z0) z0 z0).1)))), (q69, .inl (cI, 40, .inl (nF (r_inc (r_open 545259519 z0) z0)))), (q77, .inl (cI, 40, .inl (nF ((r_quo (r_open 545259519 z0) z0 z0).2)))), (q85, .inl (cJ, 11, .inr (.inl (fun _ => 0))))]) hQ hx hb hr hlocks dM_init_126 (hP.sub [1, 2, 3, 4, 5, 6, 7, 8, 9, 10, 0] rfl) (hD.sub [1, 2, 3, 4, 5, 6, 7, 8, 9, 10, 0] (by decide) rfl) hS ⟨rfl, q8, q17, q26, q35, q44, q53, q61, q69, q77, q85, rfl⟩
  · skip
    refine lv_iload_n hx hb dM_init_96 rfl (lv_at hl 1 rfl) ?_
    refine lv_sipush (v := nI 300) hx hb dM_init_97 (by decide) ?_
    refine lv_icmp_gt (tgt := 107) hx hb dM_init_100 (by decide) (fun c_100 => ?_) (fun c_100 => ?_)
    · skip
      refine lv_bipush (v := nI 100) hx hb dM_init_107 (by decide) ?_
      refine va_putF (D := D) (ci := 3) (v := .int (nI 100)) (ty := .int) (C := RM) (T := TM) (N := 12) hx hb hts iM_init_M tyM tyM_ok nmM hown hK hP hD hS 0 rfl rfl 0 (by decide) (hts (.fieldLink RM 42 "TreeDeskModel" "most" "I") (by decide +kernel)) (fun _ h9 => h9) rfl hin rfl (by decide +kernel) rfl rfl (Nat.le_of_ble_eq_true rfl) dM_init_109 (fun H locs hP hD hS => ?_)
      have hP : va_P D vwCl [(o, .inr (3, [.int (nI 100), .int 0, .ref q8, .ref q17, .ref q26, .ref q35, .ref q44, .ref q53, .ref q61, .ref q69, .ref q77, .ref q85])), (q8, .inl (cI, 300, .inl (nF z0))), (q17, .inl (cI, 300, .inl (nF z0))), (q26, .inl (cJ, 300, .inr (.inl (fun _ => 0)))), (q35, .inl (cJ, 300, .inr (.inl (fun _ => 0)))), (q44, .inl (cZ, 300, .inl (nF z0))), (q53, .inl (cI, 12000, .inl (nF z0))), (q61, .inl (cI, 40, .inl (nF z0))), (q69, .inl (cI, 40, .inl (nF z0))), (q77, .inl (cI, 40, .inl (nF z0))), (q85, .inl (cJ, 11, .inr (.inl (fun _ => 0))))] H := hP
      have hD : va_D A [(o, .inr (3, [.int (nI 100), .int 0, .ref q8, .ref q17, .ref q26, .ref q35, .ref q44, .ref q53, .ref q61, .ref q69, .ref q77, .ref q85])), (q8, .inl (cI, 300, .inl (nF z0))), (q17, .inl (cI, 300, .inl (nF z0))), (q26, .inl (cJ, 300, .inr (.inl (fun _ => 0)))), (q35, .inl (cJ, 300, .inr (.inl (fun _ => 0)))), (q44, .inl (cZ, 300, .inl (nF z0))), (q53, .inl (cI, 12000, .inl (nF z0))), (q61, .inl (cI, 40, .inl (nF z0))), (q69, .inl (cI, 40, .inl (nF z0))), (q77, .inl (cI, 40, .inl (nF z0))), (q85, .inl (cJ, 11, .inr (.inl (fun _ => 0))))] := hD
      refine lv_aload_n hx hb dM_init_112 rfl (lv_at hl 0 rfl) ?_
      refine lv_iconst (v := (-1)) hx hb dM_init_113 (by decide) ?_
      refine lv_iload_n hx hb dM_init_114 rfl (lv_at hl 2 rfl) ?_
      refine lv_i2l (v := t.toInt64) hx hb dM_init_115 rfl ?_
      refine lv_ldc2 (v := 4294967295) hx hb hown (hts (.constantLong RM 46 4294967295) (by decide +kernel)) dM_init_116 ?_
      refine lv_land hx hb dM_init_119 ?_
      refine lv_ldc2 (v := 545259519) hx hb hown (hts (.constantLong RM 48 545259519) (by decide +kernel)) dM_init_120 ?_
      refine tp_l (y := lN 545259519) (by decide) ?_
      refine rw_k (wc := [(o, .inr (3, [.int (nI 100), .int 0, .ref q8, .ref q17, .ref q26, .ref q35, .ref q44, .ref q53, .ref q61, .ref q69, .ref q77, .ref q85])), (q8, .inl (cI, 300, .inl (nF z0))), (q17, .inl (cI, 300, .inl (nF z0))), (q26, .inl (cJ, 300, .inr (.inl (fun _ => 0)))), (q35, .inl (cJ, 300, .inr (.inl (fun _ => 0)))), (q44, .inl (cZ, 300, .inl (nF z0))), (q53, .inl (cI, 12000, .inl (nF z0))), (q61, .inl (cI, 40, .inl (nF z0))), (q69, .inl (cI, 40, .inl (nF z0))), (q77, .inl (cI, 40, .inl (nF z0)))]) (wr := [(q85, .inl (cJ, 11, .inr (.inl (fun _ => 0))))]) (va_runV (As := [.int (-1), .long (t.toInt64 &&& 4294967295), .long (lN 545259519)]) (rest := []) ⟨hx, hb, hml, hown, hts⟩ (k_join_root l D cI cJ cZ o 100 q8 q17 q26 q35 q44 q53 q61 q69 q77 q85 (t.toInt64 &&& 4294967295) H.size) (cwV 3 hts gM_init_M_join_50 rfl rfl rfl (by decide +kernel) ⟨Nat.le_of_ble_eq_true rfl, Nat.le_of_ble_eq_true rfl⟩) (rw_preV (hP.sub [0, 1, 2, 3, 4, 5, 6, 7, 8, 9] rfl) hK (hD.sub [0, 1, 2, 3, 4, 5, 6, 7, 8, 9] (by decide) rfl) (va_recv hK hP (ci := 3) (q0 := 0) rfl rfl)) rfl rfl hl.1 rfl (lv_room (Nat.le_of_ble_eq_true rfl)) dM_init_123 ⟨show 10 + 0 ≤ 10 by omega, show 0 + 300 + 300 + 300 + 300 + 300 + 12000 + 40 + 40 + 40 + 11 + 0 ≤ 13631 by omega⟩) hP hD hS hA [0, 1, 2, 3, 4, 5, 6, 7, 8, 9] [10] rfl rfl (by decide) (by decide) (fun v9 w9 H locs hp9 hP hD hS => ?_)
      obtain ⟨rfl, rfl⟩ := hp9
      have hP : va_P D vwCl [(q85, .inl (cJ, 11, .inr (.inl (fun _ => 0)))), (o, .inr (3, [.int (nI 100), .int (nI 1), .ref q8, .ref q17, .ref q26, .ref q35, .ref q44, .ref q53, .ref q61, .ref q69, .ref q77, .ref q85])), (q8, .inl (cI, 300, .inl (pF z0))), (q17, .inl (cI, 300, .inl (nF z0))), (q26, .inl (cJ, 300, .inr (.inl (vp_updL (fun _ => 0) 0 (t.toInt64 &&& 4294967295))))), (q35, .inl (cJ, 300, .inr (.inl (vp_updL (fun _ => 0) 0 (lN 545259519))))), (q44, .inl (cZ, 300, .inl (nF z0))), (q53, .inl (cI, 12000, .inl (nF (r_cpyL (r_quo (r_open 545259519 z0) z0 z0).1 40 0 0 z0)))), (q61, .inl (cI, 40, .inl (nF ((r_quo (r_open 545259519 z0) z0 z0).1)))), (q69, .inl (cI, 40, .inl (nF (r_inc (r_open 545259519 z0) z0)))), (q77, .inl (cI, 40, .inl (nF ((r_quo (r_open 545259519 z0) z0 z0).2))))] H := hP
      have hD : va_D A [(q85, .inl (cJ, 11, .inr (.inl (fun _ => 0)))), (o, .inr (3, [.int (nI 100), .int (nI 1), .ref q8, .ref q17, .ref q26, .ref q35, .ref q44, .ref q53, .ref q61, .ref q69, .ref q77, .ref q85])), (q8, .inl (cI, 300, .inl (pF z0))), (q17, .inl (cI, 300, .inl (nF z0))), (q26, .inl (cJ, 300, .inr (.inl (vp_updL (fun _ => 0) 0 (t.toInt64 &&& 4294967295))))), (q35, .inl (cJ, 300, .inr (.inl (vp_updL (fun _ => 0) 0 (lN 545259519))))), (q44, .inl (cZ, 300, .inl (nF z0))), (q53, .inl (cI, 12000, .inl (nF (r_cpyL (r_quo (r_open 545259519 z0) z0 z0).1 40 0 0 z0)))), (q61, .inl (cI, 40, .inl (nF ((r_quo (r_open 545259519 z0) z0 z0).1)))), (q69, .inl (cI, 40, .inl (nF (r_inc (r_open 545259519 z0) z0)))), (q77, .inl (cI, 40, .inl (nF ((r_quo (r_open 545259519 z0) z0 z0).2))))] := hD
      refine W.eq (g2 := F0 m 126 ls []) rfl ?_
      refine W.widen (k := 10) (n := 13631) (by omega) (by omega) ?_
      exact rw_vret (w := [(o, .inr (3, [.int (nI 100), .int (nI 1), .ref q8, .ref q17, .ref q26, .ref q35, .ref q44, .ref q53, .ref q61, .ref q69, .ref q77, .ref q85])), (q8, .inl (cI, 300, .inl (pF z0))), (q17, .inl (cI, 300, .inl (nF z0))), (q26, .inl (cJ, 300, .inr (.inl (vp_updL (fun _ => 0) 0 (t.toInt64 &&& 4294967295))))), (q35, .inl (cJ, 300, .inr (.inl (vp_updL (fun _ => 0) 0 (lN 545259519))))), (q44, .inl (cZ, 300, .inl (nF z0))), (q53, .inl (cI, 12000, .inl (nF (r_cpyL (r_quo (r_open 545259519 z0) z0 z0).1 40 0 0 z0)))), (q61, .inl (cI, 40, .inl (nF ((r_quo (r_open 545259519 z0) z0 z0).1)))), (q69, .inl (cI, 40, .inl (nF (r_inc (r_open 545259519 z0) z0)))), (q77, .inl (cI, 40, .inl (nF ((r_quo (r_open 545259519 z0) z0 z0).2)))), (q85, .inl (cJ, 11, .inr (.inl (fun _ => 0))))]) hQ hx hb hr hlocks dM_init_126 (hP.sub [1, 2, 3, 4, 5, 6, 7, 8, 9, 10, 0] rfl) (hD.sub [1, 2, 3, 4, 5, 6, 7, 8, 9, 10, 0] (by decide) rfl) hS ⟨rfl, q8, q17, q26, q35, q44, q53, q61, q69, q77, q85, rfl⟩
    · skip
      exact absurd ⟨Int32.not_lt.mp c_93, Int32.not_lt.mp c_100⟩ hx9
