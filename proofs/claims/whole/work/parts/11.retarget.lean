abbrev rm_c_R_multiply : Room := { frames := 3, cells := 0, slots := 0, locals := 70 }
set_option maxRecDepth 100000 in
set_option maxHeartbeats 4000000 in
theorem c_R_multiply (l : Launch) (D : va_G) (cI cJ cZ : ClassId) (o : Nat) (q : Nat) (f : Nat → Int64) (b : Int64) (t : Int64)  : rw_C l yR_multiply wR_multiply rm_c_R_multiply D vwCl (gT cI cJ cZ) [.ref o, .long b, .long t] [(o, .inr (0, [.ref q])), (q, .inl (cJ, 9, .inr (.inl f)))] (fun v9 w9 => v9 = none ∧ w9 = [(o, .inr (0, [.ref q])), (q, .inl (cJ, 9, .inr (.inl (m_mul b t f))))]) 0 0 := by
  refine rw_of (cc := cR_multiply) (maxL := 10) (ret := none) (by decide) rfl (Nat.le_of_ble_eq_true rfl) ?_
  intro p e s m args below meth c Q A ls hx hb hr hml hown hts hlocks hin hK hP hD hA hl hQ
  have hS : va_S A s.heap s.heap [] := va_S.rf
  have hl : lv_has ls 10 [(0, .ref o), (1, .long b), (3, .long t)] := hl
  have hown : s.vm.findClass RR = some m.cls := hown
  obtain ⟨H, hHe⟩ : ∃ H : Heap, H = s.heap := ⟨_, rfl⟩
  rw [← hHe] at hP
  have hS : va_S A s.heap H [] := by rw [hHe]; exact va_S.rf
  suffices h9 : W p l e rm_c_R_multiply s m args below meth c H [] 0 0 Q (F0 m 0 ls []) by rw [hHe] at h9; exact h9
  clear hHe
  refine lv_lconst (v := 0) hx hb dR_multiply_0 (by decide) ?_
  refine lv_lstore (lv' := [(5, .long 0), (0, .ref o), (1, .long b), (3, .long t)]) hx hb dR_multiply_1 hl (by decide) rfl (fun ls hl => ?_)
  refine lv_bipush (v := nI 7) hx hb dR_multiply_3 (by decide) ?_
  refine lv_istore (lv' := [(7, .int (nI 7)), (5, .long 0), (0, .ref o), (1, .long b), (3, .long t)]) hx hb dR_multiply_5 hl (by decide) rfl (fun ls hl => ?_)
  have lp_7 : ∀ (n_7 : Nat) (k : Nat) (i : Int32) (g : Nat → Int64) (cy : Int64), (k < n_7) → (k ≤ 8) → (i = nI k + (-1)) → (m_mulL b t k g cy = m_mulL b t 8 f 0) → ∀ (H : Heap) (locs : List Loc), va_P D vwCl [(o, .inr (0, [.ref q])), (q, .inl (cJ, 9, .inr (.inl g)))] H → va_D A [(o, .inr (0, [.ref q])), (q, .inl (cJ, 9, .inr (.inl g)))] → va_S A s.heap H locs → ∀ (ls : Array Slot), lv_has ls 10 [(0, .ref o), (1, .long b), (3, .long t), (5, .long cy), (7, .int i)] → W p l e rm_c_R_multiply s m args below meth c H locs 0 0 Q (F0 m 7 ls []) := by
    intro n_7
    induction n_7 with
    | zero => intro k i g cy hn h8 hi hg H locs hP hD hS ls hl; exact absurd hn (by omega)
    | succ n_7 ih_7 =>
      intro k i g cy hn h8 hi hg H locs hP hD hS ls hl
      refine lv_iload hx hb dR_multiply_7 (lv_at hl 4 rfl) ?_
      refine lv_if_lt (tgt := 53) hx hb dR_multiply_9 (by decide) (fun c_9 => ?_) (fun c_9 => ?_)
      · skip
        have hk0 : k = 0 := dn_0 hi c_9 (by omega)
        subst hk0
        refine lv_aload_n hx hb dR_multiply_53 rfl (lv_at hl 0 rfl) ?_
        refine va_get (D := D) (ci := 0) (v := .ref q) (C := RR) (T := TR) (N := 1) hx hb hts iR_multiply_R hown hK hP 0 rfl rfl 0 (by decide) (hts (.fieldLink RR 9 "TreeDesk$Retarget" "product" "[J") (by decide +kernel)) (fun _ h9 => h9) rfl dR_multiply_54 ?_
        refine lv_iconst (v := nI 0) hx hb dR_multiply_57 (by decide) ?_
        refine lv_lload hx hb dR_multiply_58 (lv_at hl 3 rfl) ?_
        refine ar_lst (j := 0) hx hb hK hP hD hS 1 1 rfl rfl dR_multiply_60 (by omega) (by omega) (fun H locs hP hD hS => ?_)
        have hP : va_P D vwCl [(o, .inr (0, [.ref q])), (q, .inl (cJ, 9, .inr (.inl (vp_updL g 0 cy))))] H := hP
        have hD : va_D A [(o, .inr (0, [.ref q])), (q, .inl (cJ, 9, .inr (.inl (vp_updL g 0 cy))))] := hD
        exact rw_vret (w := [(o, .inr (0, [.ref q])), (q, .inl (cJ, 9, .inr (.inl (vp_updL g 0 cy))))]) hQ hx hb hr hlocks dR_multiply_61 (hP.sub [0, 1] rfl) (hD.sub [0, 1] (by decide) rfl) hS ⟨rfl, by rw [show m_mul b t f = vp_updL g 0 cy from hg.symm]⟩
      · skip
        obtain ⟨j, rfl, rfl⟩ := dn_s hi c_9
        refine lv_lload_n hx hb dR_multiply_12 rfl (lv_at hl 1 rfl) ?_
        refine lv_iload hx hb dR_multiply_13 (lv_at hl 4 rfl) ?_
        refine ro_kl (va_runS (As := [.long b, .int (nI j)]) (rest := []) ⟨hx, hb, hml, hown, hts⟩ (c_B_targetHalf l D cI cJ cZ b j (by omega)) (va_cwS 2 hts gR_multiply_B_targetHalf_46 rfl rfl rfl (by decide +kernel) ⟨Nat.le_of_ble_eq_true rfl, Nat.le_of_ble_eq_true rfl⟩) (ro_preS (hP.sub [] rfl) hK) rfl rfl hl.1 rfl (lv_room (Nat.le_of_ble_eq_true rfl)) dR_multiply_15 ⟨Nat.le_of_ble_eq_true rfl, Nat.le_of_ble_eq_true rfl⟩) ?_
        refine lv_lload_n hx hb dR_multiply_18 rfl (lv_at hl 2 rfl) ?_
        refine lv_lmul hx hb dR_multiply_19 ?_
        refine lv_lload hx hb dR_multiply_20 (lv_at hl 3 rfl) ?_
        refine lv_ladd hx hb dR_multiply_22 ?_
        refine lv_lstore (lv' := [(8, .long (((m_th b j) * t) + cy)), (0, .ref o), (1, .long b), (3, .long t), (5, .long cy), (7, .int (nI j))]) hx hb dR_multiply_23 hl (by decide) rfl (fun ls hl => ?_)
        refine lv_aload_n hx hb dR_multiply_25 rfl (lv_at hl 1 rfl) ?_
        refine va_get (D := D) (ci := 0) (v := .ref q) (C := RR) (T := TR) (N := 1) hx hb hts iR_multiply_R hown hK hP 0 rfl rfl 0 (by decide) (hts (.fieldLink RR 9 "TreeDesk$Retarget" "product" "[J") (by decide +kernel)) (fun _ h9 => h9) rfl dR_multiply_26 ?_
        refine lv_iload hx hb dR_multiply_29 (lv_at hl 5 rfl) ?_
        refine lv_iconst (v := nI 1) hx hb dR_multiply_31 (by decide) ?_
        refine lv_iadd hx hb dR_multiply_32 ?_
        refine tp_i (y := nI (j + 1)) (nI_add _ _) ?_
        refine lv_lload hx hb dR_multiply_33 (lv_at hl 0 rfl) ?_
        refine lv_ldc2 (v := 4294967295) hx hb hown (hts (.constantLong RR 50 4294967295) (by decide +kernel)) dR_multiply_35 ?_
        refine lv_land hx hb dR_multiply_38 ?_
        refine ar_lst (j := j + 1) hx hb hK hP hD hS 1 1 rfl rfl dR_multiply_39 (by omega) (by omega) (fun H locs hP hD hS => ?_)
        have hP : va_P D vwCl [(o, .inr (0, [.ref q])), (q, .inl (cJ, 9, .inr (.inl (vp_updL g (j + 1) ((((m_th b j) * t) + cy) &&& 4294967295)))))] H := hP
        have hD : va_D A [(o, .inr (0, [.ref q])), (q, .inl (cJ, 9, .inr (.inl (vp_updL g (j + 1) ((((m_th b j) * t) + cy) &&& 4294967295)))))] := hD
        refine lv_lload hx hb dR_multiply_40 (lv_at hl 0 rfl) ?_
        refine lv_bipush (v := nI 32) hx hb dR_multiply_42 (by decide) ?_
        refine lv_lushr (v := j_ushr (((m_th b j) * t) + cy) (nI 32)) hx hb dR_multiply_44 rfl ?_
        refine lv_lstore (lv' := [(5, .long (j_ushr (((m_th b j) * t) + cy) (nI 32))), (8, .long (((m_th b j) * t) + cy)), (0, .ref o), (1, .long b), (3, .long t), (7, .int (nI j))]) hx hb dR_multiply_45 hl (by decide) rfl (fun ls hl => ?_)
        refine lv_iinc (v := (nI j) + (-1)) (lv' := [(7, .int ((nI j) + (-1))), (5, .long (j_ushr (((m_th b j) * t) + cy) (nI 32))), (8, .long (((m_th b j) * t) + cy)), (0, .ref o), (1, .long b), (3, .long t)]) hx hb dR_multiply_47 hl (k := 5) rfl rfl (by decide) rfl (fun ls hl => ?_)
        refine lv_goto (tgt := 7) hx hb dR_multiply_50 (by decide) ?_
        exact ih_7 j ((nI j) + (-1)) (vp_updL g (j + 1) ((((m_th b j) * t) + cy) &&& 4294967295)) (j_ushr (((m_th b j) * t) + cy) (nI 32)) (by omega) (by omega) rfl hg _ _ (hP.sub [0, 1] rfl) (hD.sub [0, 1] (by decide) rfl) hS ls (lv_sub hl [3, 4, 5, 1, 0] rfl)
  exact lp_7 9 8 (nI 7) f 0 (by omega) (by omega) (pk_m1 7).symm rfl _ _ (hP.sub [0, 1] rfl) (hD.sub [0, 1] (by decide) rfl) hS ls (lv_sub hl [2, 3, 4, 1, 0] rfl)

abbrev rm_c_R_divide : Room := { frames := 1, cells := 0, slots := 0, locals := 23 }
set_option maxRecDepth 100000 in
set_option maxHeartbeats 4000000 in
theorem c_R_divide (l : Launch) (D : va_G) (cI cJ cZ : ClassId) (o : Nat) (q : Nat) (f : Nat → Int64)  : rw_C l yR_divide wR_divide rm_c_R_divide D vwCl (gT cI cJ cZ) [.ref o] [(o, .inr (0, [.ref q])), (q, .inl (cJ, 9, .inr (.inl f)))] (fun v9 w9 => v9 = none ∧ w9 = [(o, .inr (0, [.ref q])), (q, .inl (cJ, 9, .inr (.inl (m_div f))))]) 0 0 := by
  refine rw_of (cc := cR_divide) (maxL := 6) (ret := none) (by decide) rfl (Nat.le_of_ble_eq_true rfl) ?_
  intro p e s m args below meth c Q A ls hx hb hr hml hown hts hlocks hin hK hP hD hA hl hQ
  have hS : va_S A s.heap s.heap [] := va_S.rf
  have hl : lv_has ls 6 [(0, .ref o)] := hl
  have hown : s.vm.findClass RR = some m.cls := hown
  obtain ⟨H, hHe⟩ : ∃ H : Heap, H = s.heap := ⟨_, rfl⟩
  rw [← hHe] at hP
  have hS : va_S A s.heap H [] := by rw [hHe]; exact va_S.rf
  suffices h9 : W p l e rm_c_R_divide s m args below meth c H [] 0 0 Q (F0 m 0 ls []) by rw [hHe] at h9; exact h9
  clear hHe
  refine lv_lconst (v := 0) hx hb dR_divide_0 (by decide) ?_
  refine lv_lstore_n (lv' := [(1, .long 0), (0, .ref o)]) hx hb dR_divide_1 rfl hl (by decide) rfl (fun ls hl => ?_)
  refine lv_iconst (v := nI 0) hx hb dR_divide_2 (by decide) ?_
  refine lv_istore_n (lv' := [(3, .int (nI 0)), (1, .long 0), (0, .ref o)]) hx hb dR_divide_3 rfl hl (by decide) rfl (fun ls hl => ?_)
  have lp_4 : ∀ (n_4 : Nat) (d i : Nat) (g : Nat → Int64) (r : Int64), (d < n_4) → (i + d = 9) → (m_divU d i g r = m_divU 9 0 f 0) → ∀ (H : Heap) (locs : List Loc), va_P D vwCl [(o, .inr (0, [.ref q])), (q, .inl (cJ, 9, .inr (.inl g)))] H → va_D A [(o, .inr (0, [.ref q])), (q, .inl (cJ, 9, .inr (.inl g)))] → va_S A s.heap H locs → ∀ (ls : Array Slot), lv_has ls 6 [(0, .ref o), (1, .long r), (3, .int (nI i))] → W p l e rm_c_R_divide s m args below meth c H locs 0 0 Q (F0 m 4 ls []) := by
    intro n_4
    induction n_4 with
    | zero => intro d i g r hn hd hg H locs hP hD hS ls hl; exact absurd hn (by omega)
    | succ n_4 ih_4 =>
      intro d i g r hn hd hg H locs hP hD hS ls hl
      refine lv_iload_n hx hb dR_divide_4 rfl (lv_at hl 2 rfl) ?_
      refine lv_bipush (v := nI 8) hx hb dR_divide_5 (by decide) ?_
      refine lv_icmp_gt (tgt := 47) hx hb dR_divide_7 (by decide) (fun c_7 => ?_) (fun c_7 => ?_)
      · skip
        have c_7 : 8 < i := n_lt c_7 (by omega) (by omega)
        have hd0 : d = 0 := by omega
        subst hd0
        exact rw_vret (w := [(o, .inr (0, [.ref q])), (q, .inl (cJ, 9, .inr (.inl g)))]) hQ hx hb hr hlocks dR_divide_47 (hP.sub [0, 1] rfl) (hD.sub [0, 1] (by decide) rfl) hS ⟨rfl, by rw [show m_div f = g from hg.symm]⟩
      · skip
        have c_7 : i ≤ 8 := n_nlt c_7 (by omega) (by omega)
        obtain ⟨d, rfl⟩ : ∃ d' : Nat, d = d' + 1 := ⟨d - 1, by omega⟩
        refine lv_lload_n hx hb dR_divide_10 rfl (lv_at hl 1 rfl) ?_
        refine lv_aload_n hx hb dR_divide_11 rfl (lv_at hl 0 rfl) ?_
        refine va_get (D := D) (ci := 0) (v := .ref q) (C := RR) (T := TR) (N := 1) hx hb hts iR_divide_R hown hK hP 0 rfl rfl 0 (by decide) (hts (.fieldLink RR 9 "TreeDesk$Retarget" "product" "[J") (by decide +kernel)) (fun _ h9 => h9) rfl dR_divide_12 ?_
        refine lv_iload_n hx hb dR_divide_15 rfl (lv_at hl 2 rfl) ?_
        refine ar_lld (j := i) hx hb hK hP 1 1 rfl rfl dR_divide_16 (by omega) (by omega) ?_
        refine ro_kl (va_runS (As := [.long r, .long (g i)]) (rest := []) ⟨hx, hb, hml, hown, hts⟩ (c_B_join l D cI cJ cZ r (g i)) (va_cwS 2 hts gR_divide_B_join_35 rfl rfl rfl (by decide +kernel) ⟨Nat.le_of_ble_eq_true rfl, Nat.le_of_ble_eq_true rfl⟩) (ro_preS (hP.sub [] rfl) hK) rfl rfl hl.1 rfl (lv_room (Nat.le_of_ble_eq_true rfl)) dR_divide_17 ⟨Nat.le_of_ble_eq_true rfl, Nat.le_of_ble_eq_true rfl⟩) ?_
        refine lv_lstore (lv' := [(4, .long (m_join r (g i))), (0, .ref o), (1, .long r), (3, .int (nI i))]) hx hb dR_divide_20 hl (by decide) rfl (fun ls hl => ?_)
        refine lv_aload_n hx hb dR_divide_22 rfl (lv_at hl 1 rfl) ?_
        refine va_get (D := D) (ci := 0) (v := .ref q) (C := RR) (T := TR) (N := 1) hx hb hts iR_divide_R hown hK hP 0 rfl rfl 0 (by decide) (hts (.fieldLink RR 9 "TreeDesk$Retarget" "product" "[J") (by decide +kernel)) (fun _ h9 => h9) rfl dR_divide_23 ?_
        refine lv_iload_n hx hb dR_divide_26 rfl (lv_at hl 3 rfl) ?_
        refine lv_lload hx hb dR_divide_27 (lv_at hl 0 rfl) ?_
        refine lv_ldc2 (v := 4800) hx hb hown (hts (.constantLong RR 52 4800) (by decide +kernel)) dR_divide_29 ?_
        refine lv_ldiv hx hb dR_divide_32 (by decide) ?_
        refine ar_lst (j := i) hx hb hK hP hD hS 1 1 rfl rfl dR_divide_33 (by omega) (by omega) (fun H locs hP hD hS => ?_)
        have hP : va_P D vwCl [(o, .inr (0, [.ref q])), (q, .inl (cJ, 9, .inr (.inl (vp_updL g i ((m_join r (g i)) / 4800)))))] H := hP
        have hD : va_D A [(o, .inr (0, [.ref q])), (q, .inl (cJ, 9, .inr (.inl (vp_updL g i ((m_join r (g i)) / 4800)))))] := hD
        refine lv_lload hx hb dR_divide_34 (lv_at hl 0 rfl) ?_
        refine lv_ldc2 (v := 4800) hx hb hown (hts (.constantLong RR 52 4800) (by decide +kernel)) dR_divide_36 ?_
        refine lv_lrem hx hb dR_divide_39 (by decide) ?_
        refine lv_lstore_n (lv' := [(1, .long ((m_join r (g i)) - (m_join r (g i)) / 4800 * 4800)), (4, .long (m_join r (g i))), (0, .ref o), (3, .int (nI i))]) hx hb dR_divide_40 rfl hl (by decide) rfl (fun ls hl => ?_)
        refine lv_iinc (v := nI (i + 1)) (lv' := [(3, .int (nI (i + 1))), (1, .long ((m_join r (g i)) - (m_join r (g i)) / 4800 * 4800)), (4, .long (m_join r (g i))), (0, .ref o)]) hx hb dR_divide_41 hl (k := 3) rfl (nI_add _ 1) (by decide) rfl (fun ls hl => ?_)
        refine lv_goto (tgt := 4) hx hb dR_divide_44 (by decide) ?_
        exact ih_4 d (i + 1) (vp_updL g i ((m_join r (g i)) / 4800)) ((m_join r (g i)) - (m_join r (g i)) / 4800 * 4800) (by omega) (by omega) hg _ _ (hP.sub [0, 1] rfl) (hD.sub [0, 1] (by decide) rfl) hS ls (lv_sub hl [3, 1, 0] rfl)
  exact lp_4 10 9 0 f 0 (by omega) (by omega) rfl _ _ (hP.sub [0, 1] rfl) (hD.sub [0, 1] (by decide) rfl) hS ls (lv_sub hl [2, 1, 0] rfl)

abbrev rm_c_R_next : Room := { frames := 4, cells := 0, slots := 0, locals := 99 }
set_option maxRecDepth 100000 in
set_option maxHeartbeats 4000000 in
theorem c_R_next (l : Launch) (D : va_G) (cI cJ cZ : ClassId) (o : Nat) (q : Nat) (f : Nat → Int64) (b : Int64) (t : Int64)  : rw_C l yR_next wR_next rm_c_R_next D vwCl (gT cI cJ cZ) [.ref o, .long b, .long t] [(o, .inr (0, [.ref q])), (q, .inl (cJ, 9, .inr (.inl f)))] (fun v9 w9 => v9 = some (.long (m_next (m_pr b t f))) ∧ w9 = [(o, .inr (0, [.ref q])), (q, .inl (cJ, 9, .inr (.inl (m_pr b t f))))]) 0 0 := by
  refine rw_of (cc := cR_next) (maxL := 13) (ret := some .long) (by decide) rfl (Nat.le_of_ble_eq_true rfl) ?_
  intro p e s m args below meth c Q A ls hx hb hr hml hown hts hlocks hin hK hP hD hA hl hQ
  have hS : va_S A s.heap s.heap [] := va_S.rf
  have hl : lv_has ls 13 [(0, .ref o), (1, .long b), (3, .long t)] := hl
  have hown : s.vm.findClass RR = some m.cls := hown
  obtain ⟨H, hHe⟩ : ∃ H : Heap, H = s.heap := ⟨_, rfl⟩
  rw [← hHe] at hP
  have hS : va_S A s.heap H [] := by rw [hHe]; exact va_S.rf
  suffices h9 : W p l e rm_c_R_next s m args below meth c H [] 0 0 Q (F0 m 0 ls []) by rw [hHe] at h9; exact h9
  clear hHe
  refine lv_aload_n hx hb dR_next_0 rfl (lv_at hl 0 rfl) ?_
  refine lv_lload_n hx hb dR_next_1 rfl (lv_at hl 1 rfl) ?_
  refine lv_ldc2 (v := 1200) hx hb hown (hts (.constantLong RR 15 1200) (by decide +kernel)) dR_next_2 ?_
  refine lv_ldc2 (v := 19200) hx hb hown (hts (.constantLong RR 17 19200) (by decide +kernel)) dR_next_5 ?_
  refine lv_lload_n hx hb dR_next_8 rfl (lv_at hl 2 rfl) ?_
  refine va_mmin_long hx hb (hml.trans hl.1.symm) hown (hts (.methodLink RR 19 Lib.MathLoose.min_long.x) (by decide +kernel)) (hts (.static Lib.MathLoose.min_long.x) (by decide +kernel)) (hts (.initialized "java/lang/Math") (by decide +kernel)) (hts (.code Lib.MathLoose.min_long.x Lib.MathLoose.min_long.code 4 (some .long)) (by decide +kernel)) (Nat.le_of_ble_eq_true rfl) (Nat.le_of_ble_eq_true rfl) (Nat.le_of_ble_eq_true rfl) (Nat.le_of_ble_eq_true rfl) dR_next_9 ?_
  refine va_mmax_long hx hb (hml.trans hl.1.symm) hown (hts (.methodLink RR 25 Lib.MathLoose.max_long.x) (by decide +kernel)) (hts (.static Lib.MathLoose.max_long.x) (by decide +kernel)) (hts (.initialized "java/lang/Math") (by decide +kernel)) (hts (.code Lib.MathLoose.max_long.x Lib.MathLoose.max_long.code 4 (some .long)) (by decide +kernel)) (Nat.le_of_ble_eq_true rfl) (Nat.le_of_ble_eq_true rfl) (Nat.le_of_ble_eq_true rfl) (Nat.le_of_ble_eq_true rfl) dR_next_12 ?_
  refine tp_l (y := m_clamp t) rfl ?_
  refine rw_k (wc := [(o, .inr (0, [.ref q])), (q, .inl (cJ, 9, .inr (.inl f)))]) (wr := []) (va_runV (As := [.long b, .long (m_clamp t)]) (rest := []) ⟨hx, hb, hml, hown, hts⟩ (c_R_multiply l D cI cJ cZ o q f b (m_clamp t) H.size) (cwV 2 hts gR_next_R_multiply_28 rfl rfl rfl (by decide +kernel) ⟨Nat.le_of_ble_eq_true rfl, Nat.le_of_ble_eq_true rfl⟩) (rw_preV (hP.sub [0, 1] rfl) hK (hD.sub [0, 1] (by decide) rfl) (va_recv hK hP (ci := 0) (q0 := 0) rfl rfl)) rfl rfl hl.1 rfl (lv_room (Nat.le_of_ble_eq_true rfl)) dR_next_15 ⟨Nat.le_of_ble_eq_true rfl, Nat.le_of_ble_eq_true rfl⟩) hP hD hS hA [0, 1] [] rfl rfl (by decide) (by decide) (fun v9 w9 H locs hp9 hP hD hS => ?_)
  obtain ⟨rfl, rfl⟩ := hp9
  have hP : va_P D vwCl [(o, .inr (0, [.ref q])), (q, .inl (cJ, 9, .inr (.inl (m_mul b (m_clamp t) f))))] H := hP
  have hD : va_D A [(o, .inr (0, [.ref q])), (q, .inl (cJ, 9, .inr (.inl (m_mul b (m_clamp t) f))))] := hD
  refine W.eq (g2 := F0 m 18 ls []) rfl ?_
  refine lv_aload_n hx hb dR_next_18 rfl (lv_at hl 0 rfl) ?_
  refine rw_k (wc := [(o, .inr (0, [.ref q])), (q, .inl (cJ, 9, .inr (.inl (m_mul b (m_clamp t) f))))]) (wr := []) (va_runV (As := []) (rest := []) ⟨hx, hb, hml, hown, hts⟩ (c_R_divide l D cI cJ cZ o q (m_mul b (m_clamp t) f) H.size) (cwV 0 hts gR_next_R_divide_32 rfl rfl rfl (by decide +kernel) ⟨Nat.le_of_ble_eq_true rfl, Nat.le_of_ble_eq_true rfl⟩) (rw_preV (hP.sub [0, 1] rfl) hK (hD.sub [0, 1] (by decide) rfl) (va_recv hK hP (ci := 0) (q0 := 0) rfl rfl)) rfl rfl hl.1 rfl (lv_room (Nat.le_of_ble_eq_true rfl)) dR_next_19 ⟨Nat.le_of_ble_eq_true rfl, Nat.le_of_ble_eq_true rfl⟩) hP hD hS hA [0, 1] [] rfl rfl (by decide) (by decide) (fun v9 w9 H locs hp9 hP hD hS => ?_)
  obtain ⟨rfl, rfl⟩ := hp9
  have hP : va_P D vwCl [(o, .inr (0, [.ref q])), (q, .inl (cJ, 9, .inr (.inl (m_div (m_mul b (m_clamp t) f)))))] H := hP
  have hD : va_D A [(o, .inr (0, [.ref q])), (q, .inl (cJ, 9, .inr (.inl (m_div (m_mul b (m_clamp t) f)))))] := hD
  refine W.eq (g2 := F0 m 22 ls []) rfl ?_
  have e_w19 : m_div (m_mul b (m_clamp t) f) = m_pr b t f := rfl
  rw [e_w19] at hP hD
  refine lv_aload_n hx hb dR_next_22 rfl (lv_at hl 0 rfl) ?_
  refine va_get (D := D) (ci := 0) (v := .ref q) (C := RR) (T := TR) (N := 1) hx hb hts iR_next_R hown hK hP 0 rfl rfl 0 (by decide) (hts (.fieldLink RR 9 "TreeDesk$Retarget" "product" "[J") (by decide +kernel)) (fun _ h9 => h9) rfl dR_next_23 ?_
  refine lv_iconst (v := nI 1) hx hb dR_next_26 (by decide) ?_
  refine ar_lld (j := 1) hx hb hK hP 1 1 rfl rfl dR_next_27 (by omega) (by omega) ?_
  refine lv_aload_n hx hb dR_next_28 rfl (lv_at hl 0 rfl) ?_
  refine va_get (D := D) (ci := 0) (v := .ref q) (C := RR) (T := TR) (N := 1) hx hb hts iR_next_R hown hK hP 0 rfl rfl 0 (by decide) (hts (.fieldLink RR 9 "TreeDesk$Retarget" "product" "[J") (by decide +kernel)) (fun _ h9 => h9) rfl dR_next_29 ?_
  refine lv_iconst (v := nI 2) hx hb dR_next_32 (by decide) ?_
  refine ar_lld (j := 2) hx hb hK hP 1 1 rfl rfl dR_next_33 (by omega) (by omega) ?_
  refine ro_kl (va_runS (As := [.long ((m_pr b t f) 1), .long ((m_pr b t f) 2)]) (rest := []) ⟨hx, hb, hml, hown, hts⟩ (c_B_join l D cI cJ cZ ((m_pr b t f) 1) ((m_pr b t f) 2)) (va_cwS 2 hts gR_next_B_join_35 rfl rfl rfl (by decide +kernel) ⟨Nat.le_of_ble_eq_true rfl, Nat.le_of_ble_eq_true rfl⟩) (ro_preS (hP.sub [] rfl) hK) rfl rfl hl.1 rfl (lv_room (Nat.le_of_ble_eq_true rfl)) dR_next_34 ⟨Nat.le_of_ble_eq_true rfl, Nat.le_of_ble_eq_true rfl⟩) ?_
  refine lv_lstore (lv' := [(5, .long (m_join ((m_pr b t f) 1) ((m_pr b t f) 2))), (0, .ref o), (1, .long b), (3, .long t)]) hx hb dR_next_37 hl (by decide) rfl (fun ls hl => ?_)
  refine lv_aload_n hx hb dR_next_39 rfl (lv_at hl 1 rfl) ?_
  refine va_get (D := D) (ci := 0) (v := .ref q) (C := RR) (T := TR) (N := 1) hx hb hts iR_next_R hown hK hP 0 rfl rfl 0 (by decide) (hts (.fieldLink RR 9 "TreeDesk$Retarget" "product" "[J") (by decide +kernel)) (fun _ h9 => h9) rfl dR_next_40 ?_
  refine lv_iconst (v := nI 0) hx hb dR_next_43 (by decide) ?_
  refine ar_lld (j := 0) hx hb hK hP 1 1 rfl rfl dR_next_44 (by omega) (by omega) ?_
  refine lv_lconst (v := 0) hx hb dR_next_45 (by decide) ?_
  refine lc_ne (tgt := 66) hx hb dR_next_46 dR_next_47 (by decide) (fun c_47 => ?_) (fun c_47 => ?_)
  · skip
    refine lv_ldc2 (v := 545259519) hx hb hown (hts (.constantLong RR 40 545259519) (by decide +kernel)) dR_next_66 ?_
    exact rw_lret (w := [(o, .inr (0, [.ref q])), (q, .inl (cJ, 9, .inr (.inl (m_pr b t f))))]) hQ hx hb hr hlocks dR_next_69 (hP.sub [0, 1] rfl) (hD.sub [0, 1] (by decide) rfl) hS ⟨by simp [m_next, c_47], rfl⟩
  · skip
    refine lv_lload hx hb dR_next_50 (lv_at hl 0 rfl) ?_
    refine lv_lconst (v := 0) hx hb dR_next_52 (by decide) ?_
    refine lc_lt (tgt := 66) hx hb dR_next_53 dR_next_54 (by decide) (fun c_54 => ?_) (fun c_54 => ?_)
    · skip
      refine lv_ldc2 (v := 545259519) hx hb hown (hts (.constantLong RR 40 545259519) (by decide +kernel)) dR_next_66 ?_
      exact rw_lret (w := [(o, .inr (0, [.ref q])), (q, .inl (cJ, 9, .inr (.inl (m_pr b t f))))]) hQ hx hb hr hlocks dR_next_69 (hP.sub [0, 1] rfl) (hD.sub [0, 1] (by decide) rfl) hS ⟨by simp [m_next, c_47, c_54], rfl⟩
    · skip
      refine lv_lload hx hb dR_next_57 (lv_at hl 0 rfl) ?_
      refine lv_ldc2 (v := 9223370937343148032) hx hb hown (hts (.constantLong RR 38 9223370937343148032) (by decide +kernel)) dR_next_59 ?_
      refine lc_lt (tgt := 70) hx hb dR_next_62 dR_next_63 (by decide) (fun c_63 => ?_) (fun c_63 => ?_)
      · skip
        refine lv_aload_n hx hb dR_next_70 rfl (lv_at hl 1 rfl) ?_
        refine va_get (D := D) (ci := 0) (v := .ref q) (C := RR) (T := TR) (N := 1) hx hb hts iR_next_R hown hK hP 0 rfl rfl 0 (by decide) (hts (.fieldLink RR 9 "TreeDesk$Retarget" "product" "[J") (by decide +kernel)) (fun _ h9 => h9) rfl dR_next_71 ?_
        refine lv_iconst (v := nI 3) hx hb dR_next_74 (by decide) ?_
        refine ar_lld (j := 3) hx hb hK hP 1 1 rfl rfl dR_next_75 (by omega) (by omega) ?_
        refine lv_aload_n hx hb dR_next_76 rfl (lv_at hl 1 rfl) ?_
        refine va_get (D := D) (ci := 0) (v := .ref q) (C := RR) (T := TR) (N := 1) hx hb hts iR_next_R hown hK hP 0 rfl rfl 0 (by decide) (hts (.fieldLink RR 9 "TreeDesk$Retarget" "product" "[J") (by decide +kernel)) (fun _ h9 => h9) rfl dR_next_77 ?_
        refine lv_iconst (v := nI 4) hx hb dR_next_80 (by decide) ?_
        refine ar_lld (j := 4) hx hb hK hP 1 1 rfl rfl dR_next_81 (by omega) (by omega) ?_
        refine ro_kl (va_runS (As := [.long ((m_pr b t f) 3), .long ((m_pr b t f) 4)]) (rest := []) ⟨hx, hb, hml, hown, hts⟩ (c_B_join l D cI cJ cZ ((m_pr b t f) 3) ((m_pr b t f) 4)) (va_cwS 2 hts gR_next_B_join_35 rfl rfl rfl (by decide +kernel) ⟨Nat.le_of_ble_eq_true rfl, Nat.le_of_ble_eq_true rfl⟩) (ro_preS (hP.sub [] rfl) hK) rfl rfl hl.1 rfl (lv_room (Nat.le_of_ble_eq_true rfl)) dR_next_82 ⟨Nat.le_of_ble_eq_true rfl, Nat.le_of_ble_eq_true rfl⟩) ?_
        refine lv_lstore (lv' := [(7, .long (m_join ((m_pr b t f) 3) ((m_pr b t f) 4))), (5, .long (m_join ((m_pr b t f) 1) ((m_pr b t f) 2))), (0, .ref o), (1, .long b), (3, .long t)]) hx hb dR_next_85 hl (by decide) rfl (fun ls hl => ?_)
        refine lv_aload_n hx hb dR_next_87 rfl (lv_at hl 2 rfl) ?_
        refine va_get (D := D) (ci := 0) (v := .ref q) (C := RR) (T := TR) (N := 1) hx hb hts iR_next_R hown hK hP 0 rfl rfl 0 (by decide) (hts (.fieldLink RR 9 "TreeDesk$Retarget" "product" "[J") (by decide +kernel)) (fun _ h9 => h9) rfl dR_next_88 ?_
        refine lv_iconst (v := nI 5) hx hb dR_next_91 (by decide) ?_
        refine ar_lld (j := 5) hx hb hK hP 1 1 rfl rfl dR_next_92 (by omega) (by omega) ?_
        refine lv_aload_n hx hb dR_next_93 rfl (lv_at hl 2 rfl) ?_
        refine va_get (D := D) (ci := 0) (v := .ref q) (C := RR) (T := TR) (N := 1) hx hb hts iR_next_R hown hK hP 0 rfl rfl 0 (by decide) (hts (.fieldLink RR 9 "TreeDesk$Retarget" "product" "[J") (by decide +kernel)) (fun _ h9 => h9) rfl dR_next_94 ?_
        refine lv_bipush (v := nI 6) hx hb dR_next_97 (by decide) ?_
        refine ar_lld (j := 6) hx hb hK hP 1 1 rfl rfl dR_next_99 (by omega) (by omega) ?_
        refine ro_kl (va_runS (As := [.long ((m_pr b t f) 5), .long ((m_pr b t f) 6)]) (rest := []) ⟨hx, hb, hml, hown, hts⟩ (c_B_join l D cI cJ cZ ((m_pr b t f) 5) ((m_pr b t f) 6)) (va_cwS 2 hts gR_next_B_join_35 rfl rfl rfl (by decide +kernel) ⟨Nat.le_of_ble_eq_true rfl, Nat.le_of_ble_eq_true rfl⟩) (ro_preS (hP.sub [] rfl) hK) rfl rfl hl.1 rfl (lv_room (Nat.le_of_ble_eq_true rfl)) dR_next_100 ⟨Nat.le_of_ble_eq_true rfl, Nat.le_of_ble_eq_true rfl⟩) ?_
        refine lv_lstore (lv' := [(9, .long (m_join ((m_pr b t f) 5) ((m_pr b t f) 6))), (7, .long (m_join ((m_pr b t f) 3) ((m_pr b t f) 4))), (5, .long (m_join ((m_pr b t f) 1) ((m_pr b t f) 2))), (0, .ref o), (1, .long b), (3, .long t)]) hx hb dR_next_103 hl (by decide) rfl (fun ls hl => ?_)
        refine lv_aload_n hx hb dR_next_105 rfl (lv_at hl 3 rfl) ?_
        refine va_get (D := D) (ci := 0) (v := .ref q) (C := RR) (T := TR) (N := 1) hx hb hts iR_next_R hown hK hP 0 rfl rfl 0 (by decide) (hts (.fieldLink RR 9 "TreeDesk$Retarget" "product" "[J") (by decide +kernel)) (fun _ h9 => h9) rfl dR_next_106 ?_
        refine lv_bipush (v := nI 7) hx hb dR_next_109 (by decide) ?_
        refine ar_lld (j := 7) hx hb hK hP 1 1 rfl rfl dR_next_111 (by omega) (by omega) ?_
        refine lv_aload_n hx hb dR_next_112 rfl (lv_at hl 3 rfl) ?_
        refine va_get (D := D) (ci := 0) (v := .ref q) (C := RR) (T := TR) (N := 1) hx hb hts iR_next_R hown hK hP 0 rfl rfl 0 (by decide) (hts (.fieldLink RR 9 "TreeDesk$Retarget" "product" "[J") (by decide +kernel)) (fun _ h9 => h9) rfl dR_next_113 ?_
        refine lv_bipush (v := nI 8) hx hb dR_next_116 (by decide) ?_
        refine ar_lld (j := 8) hx hb hK hP 1 1 rfl rfl dR_next_118 (by omega) (by omega) ?_
        refine ro_kl (va_runS (As := [.long ((m_pr b t f) 7), .long ((m_pr b t f) 8)]) (rest := []) ⟨hx, hb, hml, hown, hts⟩ (c_B_join l D cI cJ cZ ((m_pr b t f) 7) ((m_pr b t f) 8)) (va_cwS 2 hts gR_next_B_join_35 rfl rfl rfl (by decide +kernel) ⟨Nat.le_of_ble_eq_true rfl, Nat.le_of_ble_eq_true rfl⟩) (ro_preS (hP.sub [] rfl) hK) rfl rfl hl.1 rfl (lv_room (Nat.le_of_ble_eq_true rfl)) dR_next_119 ⟨Nat.le_of_ble_eq_true rfl, Nat.le_of_ble_eq_true rfl⟩) ?_
        refine lv_lstore (lv' := [(11, .long (m_join ((m_pr b t f) 7) ((m_pr b t f) 8))), (9, .long (m_join ((m_pr b t f) 5) ((m_pr b t f) 6))), (7, .long (m_join ((m_pr b t f) 3) ((m_pr b t f) 4))), (5, .long (m_join ((m_pr b t f) 1) ((m_pr b t f) 2))), (0, .ref o), (1, .long b), (3, .long t)]) hx hb dR_next_122 hl (by decide) rfl (fun ls hl => ?_)
        refine lv_lload hx hb dR_next_124 (lv_at hl 3 rfl) ?_
        refine lv_lload hx hb dR_next_126 (lv_at hl 2 rfl) ?_
        refine lv_lload hx hb dR_next_128 (lv_at hl 1 rfl) ?_
        refine lv_lload hx hb dR_next_130 (lv_at hl 0 rfl) ?_
        refine ro_kl (va_runS (As := [.long (m_join ((m_pr b t f) 1) ((m_pr b t f) 2)), .long (m_join ((m_pr b t f) 3) ((m_pr b t f) 4)), .long (m_join ((m_pr b t f) 5) ((m_pr b t f) 6)), .long (m_join ((m_pr b t f) 7) ((m_pr b t f) 8))]) (rest := []) ⟨hx, hb, hml, hown, hts⟩ (c_B_shorten l D cI cJ cZ (m_join ((m_pr b t f) 1) ((m_pr b t f) 2)) (m_join ((m_pr b t f) 3) ((m_pr b t f) 4)) (m_join ((m_pr b t f) 5) ((m_pr b t f) 6)) (m_join ((m_pr b t f) 7) ((m_pr b t f) 8))) (va_cwS 4 hts gR_next_B_shorten_42 rfl rfl rfl (by decide +kernel) ⟨Nat.le_of_ble_eq_true rfl, Nat.le_of_ble_eq_true rfl⟩) (ro_preS (hP.sub [] rfl) hK) rfl rfl hl.1 rfl (lv_room (Nat.le_of_ble_eq_true rfl)) dR_next_132 ⟨Nat.le_of_ble_eq_true rfl, Nat.le_of_ble_eq_true rfl⟩) ?_
        exact rw_lret (w := [(o, .inr (0, [.ref q])), (q, .inl (cJ, 9, .inr (.inl (m_pr b t f))))]) hQ hx hb hr hlocks dR_next_135 (hP.sub [0, 1] rfl) (hD.sub [0, 1] (by decide) rfl) hS ⟨by simp [m_next, c_47, c_54, c_63], rfl⟩
      · skip
        refine lv_ldc2 (v := 545259519) hx hb hown (hts (.constantLong RR 40 545259519) (by decide +kernel)) dR_next_66 ?_
        exact rw_lret (w := [(o, .inr (0, [.ref q])), (q, .inl (cJ, 9, .inr (.inl (m_pr b t f))))]) hQ hx hb hr hlocks dR_next_69 (hP.sub [0, 1] rfl) (hD.sub [0, 1] (by decide) rfl) hS ⟨by simp [m_next, c_47, c_54, c_63], rfl⟩

abbrev rm_c_W_setDivisor : Room := { frames := 3, cells := 0, slots := 0, locals := 70 }
set_option maxRecDepth 100000 in
set_option maxHeartbeats 4000000 in
theorem c_W_setDivisor (l : Launch) (D : va_G) (cI cJ cZ : ClassId) (o : Nat) (d : Nat) (r : Nat) (q : Nat) (kn : Int64) (f : Nat → Int64) (b : Int64)  : rw_C l yW_setDivisor wW_setDivisor rm_c_W_setDivisor D vwCl (gT cI cJ cZ) [.ref o, .long b] [(o, .inr (1, [.ref d, .ref r, .ref q, .long kn])), (d, .inl (cJ, 8, .inr (.inl f)))] (fun v9 w9 => v9 = none ∧ w9 = [(o, .inr (1, [.ref d, .ref r, .ref q, .long kn])), (d, .inl (cJ, 8, .inr (.inl (m_set b f))))]) 0 0 := by
  refine rw_of (cc := cW_setDivisor) (maxL := 8) (ret := none) (by decide) rfl (Nat.le_of_ble_eq_true rfl) ?_
  intro p e s m args below meth c Q A ls hx hb hr hml hown hts hlocks hin hK hP hD hA hl hQ
  have hS : va_S A s.heap s.heap [] := va_S.rf
  have hl : lv_has ls 8 [(0, .ref o), (1, .long b)] := hl
  have hown : s.vm.findClass RW = some m.cls := hown
  obtain ⟨H, hHe⟩ : ∃ H : Heap, H = s.heap := ⟨_, rfl⟩
  rw [← hHe] at hP
  have hS : va_S A s.heap H [] := by rw [hHe]; exact va_S.rf
  suffices h9 : W p l e rm_c_W_setDivisor s m args below meth c H [] 0 0 Q (F0 m 0 ls []) by rw [hHe] at h9; exact h9
  clear hHe
  refine lv_lconst (v := 1) hx hb dW_setDivisor_0 (by decide) ?_
  refine lv_lstore_n (lv' := [(3, .long 1), (0, .ref o), (1, .long b)]) hx hb dW_setDivisor_1 rfl hl (by decide) rfl (fun ls hl => ?_)
  refine lv_bipush (v := nI 7) hx hb dW_setDivisor_2 (by decide) ?_
  refine lv_istore (lv' := [(5, .int (nI 7)), (3, .long 1), (0, .ref o), (1, .long b)]) hx hb dW_setDivisor_4 hl (by decide) rfl (fun ls hl => ?_)
  have lp_6 : ∀ (n_6 : Nat) (k : Nat) (i : Int32) (g : Nat → Int64) (cy : Int64), (k < n_6) → (k ≤ 8) → (i = nI k + (-1)) → (m_setL b k g cy = m_setL b 8 f 1) → ∀ (H : Heap) (locs : List Loc), va_P D vwCl [(o, .inr (1, [.ref d, .ref r, .ref q, .long kn])), (d, .inl (cJ, 8, .inr (.inl g)))] H → va_D A [(o, .inr (1, [.ref d, .ref r, .ref q, .long kn])), (d, .inl (cJ, 8, .inr (.inl g)))] → va_S A s.heap H locs → ∀ (ls : Array Slot), lv_has ls 8 [(0, .ref o), (1, .long b), (3, .long cy), (5, .int i)] → W p l e rm_c_W_setDivisor s m args below meth c H locs 0 0 Q (F0 m 6 ls []) := by
    intro n_6
    induction n_6 with
    | zero => intro k i g cy hn h8 hi hg H locs hP hD hS ls hl; exact absurd hn (by omega)
    | succ n_6 ih_6 =>
      intro k i g cy hn h8 hi hg H locs hP hD hS ls hl
      refine lv_iload hx hb dW_setDivisor_6 (lv_at hl 3 rfl) ?_
      refine lv_if_lt (tgt := 46) hx hb dW_setDivisor_8 (by decide) (fun c_8 => ?_) (fun c_8 => ?_)
      · skip
        have hk0 : k = 0 := dn_0 hi c_8 (by omega)
        subst hk0
        exact rw_vret (w := [(o, .inr (1, [.ref d, .ref r, .ref q, .long kn])), (d, .inl (cJ, 8, .inr (.inl g)))]) hQ hx hb hr hlocks dW_setDivisor_46 (hP.sub [0, 1] rfl) (hD.sub [0, 1] (by decide) rfl) hS ⟨rfl, by rw [show m_set b f = g from hg.symm]⟩
      · skip
        obtain ⟨j, rfl, rfl⟩ := dn_s hi c_8
        refine lv_lload_n hx hb dW_setDivisor_11 rfl (lv_at hl 1 rfl) ?_
        refine lv_iload hx hb dW_setDivisor_12 (lv_at hl 3 rfl) ?_
        refine ro_kl (va_runS (As := [.long b, .int (nI j)]) (rest := []) ⟨hx, hb, hml, hown, hts⟩ (c_B_targetHalf l D cI cJ cZ b j (by omega)) (va_cwS 2 hts gW_setDivisor_B_targetHalf_34 rfl rfl rfl (by decide +kernel) ⟨Nat.le_of_ble_eq_true rfl, Nat.le_of_ble_eq_true rfl⟩) (ro_preS (hP.sub [] rfl) hK) rfl rfl hl.1 rfl (lv_room (Nat.le_of_ble_eq_true rfl)) dW_setDivisor_14 ⟨Nat.le_of_ble_eq_true rfl, Nat.le_of_ble_eq_true rfl⟩) ?_
        refine lv_lload_n hx hb dW_setDivisor_17 rfl (lv_at hl 2 rfl) ?_
        refine lv_ladd hx hb dW_setDivisor_18 ?_
        refine lv_lstore (lv' := [(6, .long ((m_th b j) + cy)), (0, .ref o), (1, .long b), (3, .long cy), (5, .int (nI j))]) hx hb dW_setDivisor_19 hl (by decide) rfl (fun ls hl => ?_)
        refine lv_aload_n hx hb dW_setDivisor_21 rfl (lv_at hl 1 rfl) ?_
        refine va_get (D := D) (ci := 1) (v := .ref d) (C := RW) (T := TW) (N := 4) hx hb hts iW_setDivisor_W hown hK hP 0 rfl rfl 0 (by decide) (hts (.fieldLink RW 9 "TreeDesk$Worth" "divisor" "[J") (by decide +kernel)) (fun _ h9 => h9) rfl dW_setDivisor_22 ?_
        refine lv_iload hx hb dW_setDivisor_25 (lv_at hl 4 rfl) ?_
        refine lv_lload hx hb dW_setDivisor_27 (lv_at hl 0 rfl) ?_
        refine lv_ldc2 (v := 4294967295) hx hb hown (hts (.constantLong RW 38 4294967295) (by decide +kernel)) dW_setDivisor_29 ?_
        refine lv_land hx hb dW_setDivisor_32 ?_
        refine ar_lst (j := j) hx hb hK hP hD hS 1 1 rfl rfl dW_setDivisor_33 (by omega) (by omega) (fun H locs hP hD hS => ?_)
        have hP : va_P D vwCl [(o, .inr (1, [.ref d, .ref r, .ref q, .long kn])), (d, .inl (cJ, 8, .inr (.inl (vp_updL g j (((m_th b j) + cy) &&& 4294967295)))))] H := hP
        have hD : va_D A [(o, .inr (1, [.ref d, .ref r, .ref q, .long kn])), (d, .inl (cJ, 8, .inr (.inl (vp_updL g j (((m_th b j) + cy) &&& 4294967295)))))] := hD
        refine lv_lload hx hb dW_setDivisor_34 (lv_at hl 0 rfl) ?_
        refine lv_bipush (v := nI 32) hx hb dW_setDivisor_36 (by decide) ?_
        refine lv_lushr (v := j_ushr ((m_th b j) + cy) (nI 32)) hx hb dW_setDivisor_38 rfl ?_
        refine lv_lstore_n (lv' := [(3, .long (j_ushr ((m_th b j) + cy) (nI 32))), (6, .long ((m_th b j) + cy)), (0, .ref o), (1, .long b), (5, .int (nI j))]) hx hb dW_setDivisor_39 rfl hl (by decide) rfl (fun ls hl => ?_)
        refine lv_iinc (v := (nI j) + (-1)) (lv' := [(5, .int ((nI j) + (-1))), (3, .long (j_ushr ((m_th b j) + cy) (nI 32))), (6, .long ((m_th b j) + cy)), (0, .ref o), (1, .long b)]) hx hb dW_setDivisor_40 hl (k := 4) rfl rfl (by decide) rfl (fun ls hl => ?_)
        refine lv_goto (tgt := 6) hx hb dW_setDivisor_43 (by decide) ?_
        exact ih_6 j ((nI j) + (-1)) (vp_updL g j (((m_th b j) + cy) &&& 4294967295)) (j_ushr ((m_th b j) + cy) (nI 32)) (by omega) (by omega) rfl hg _ _ (hP.sub [0, 1] rfl) (hD.sub [0, 1] (by decide) rfl) hS ls (lv_sub hl [3, 4, 1, 0] rfl)
  exact lp_6 9 8 (nI 7) f 1 (by omega) (by omega) (pk_m1 7).symm rfl _ _ (hP.sub [0, 1] rfl) (hD.sub [0, 1] (by decide) rfl) hS ls (lv_sub hl [2, 3, 1, 0] rfl)

abbrev rm_c_W_divisorLength : Room := { frames := 3, cells := 0, slots := 0, locals := 64 }
set_option maxRecDepth 100000 in
set_option maxHeartbeats 4000000 in
theorem c_W_divisorLength (l : Launch) (D : va_G) (cI cJ cZ : ClassId) (o : Nat) (d : Nat) (r : Nat) (q : Nat) (kn : Int64) (f : Nat → Int64)  : ro_C l yW_divisorLength wW_divisorLength rm_c_W_divisorLength D vwCl (gT cI cJ cZ) [.ref o] [(o, .inr (1, [.ref d, .ref r, .ref q, .long kn])), (d, .inl (cJ, 8, .inr (.inl f)))] (some (.int (m_dlen f 8 0))) := by
  refine ro_of (cc := cW_divisorLength) (maxL := 2) (ret := some .int) (by decide) rfl (Nat.le_of_ble_eq_true rfl) ?_
  intro p e s m args below meth c Q ls hx hb hr hml hown hts hlocks hK hP hl hQ
  have hl : lv_has ls 2 [(0, .ref o)] := hl
  have hown : s.vm.findClass RW = some m.cls := hown
  refine lv_iconst (v := nI 0) hx hb dW_divisorLength_0 (by decide) ?_
  refine lv_istore_n (lv' := [(1, .int (nI 0)), (0, .ref o)]) hx hb dW_divisorLength_1 rfl hl (by decide) rfl (fun ls hl => ?_)
  have lp_2 : ∀ (n_2 : Nat) (n i : Nat), (n < n_2) → (i + n = 8) → (m_dlen f n i = m_dlen f 8 0) → ∀ (ls : Array Slot), lv_has ls 2 [(0, .ref o), (1, .int (nI i))] → W p l e rm_c_W_divisorLength s m args below meth c s.heap [] 0 0 Q (F0 m 2 ls []) := by
    intro n_2
    induction n_2 with
    | zero => intro n i hn hd hg ls hl; exact absurd hn (by omega)
    | succ n_2 ih_2 =>
      intro n i hn hd hg ls hl
      refine lv_iload_n hx hb dW_divisorLength_2 rfl (lv_at hl 1 rfl) ?_
      refine lv_bipush (v := nI 8) hx hb dW_divisorLength_3 (by decide) ?_
      refine lv_icmp_ge (tgt := 43) hx hb dW_divisorLength_5 (by decide) (fun c_5 => ?_) (fun c_5 => ?_)
      · skip
        have c_5 : 8 ≤ i := n_le c_5 (by omega) (by omega)
        have hd0 : n = 0 := by omega
        subst hd0
        refine lv_iconst (v := nI 0) hx hb dW_divisorLength_43 (by decide) ?_
        exact ro_iret hQ hx hb hr hlocks dW_divisorLength_44 (by rw [← hg]; rfl)
      · skip
        have c_5 : i < 8 := n_nle c_5 (by omega) (by omega)
        obtain ⟨n, rfl⟩ : ∃ d' : Nat, n = d' + 1 := ⟨n - 1, by omega⟩
        refine lv_aload_n hx hb dW_divisorLength_8 rfl (lv_at hl 0 rfl) ?_
        refine va_get (D := D) (ci := 1) (v := .ref d) (C := RW) (T := TW) (N := 4) hx hb hts iW_divisorLength_W hown hK hP 0 rfl rfl 0 (by decide) (hts (.fieldLink RW 9 "TreeDesk$Worth" "divisor" "[J") (by decide +kernel)) (fun _ h9 => h9) rfl dW_divisorLength_9 ?_
        refine lv_iload_n hx hb dW_divisorLength_12 rfl (lv_at hl 1 rfl) ?_
        refine ar_lld (j := i) hx hb hK hP 1 1 rfl rfl dW_divisorLength_13 (by omega) (by omega) ?_
        refine lv_lconst (v := 0) hx hb dW_divisorLength_14 (by decide) ?_
        refine lc_eq (tgt := 37) hx hb dW_divisorLength_15 dW_divisorLength_16 (by decide) (fun c_16 => ?_) (fun c_16 => ?_)
        · skip
          refine lv_iinc (v := nI (i + 1)) (lv' := [(1, .int (nI (i + 1))), (0, .ref o)]) hx hb dW_divisorLength_37 hl (k := 1) rfl (nI_add _ 1) (by decide) rfl (fun ls hl => ?_)
          refine lv_goto (tgt := 2) hx hb dW_divisorLength_40 (by decide) ?_
          exact ih_2 n (i + 1) (by omega) (by omega) (by rw [← hg, m_dlen, if_pos c_16]) ls (lv_sub hl [1, 0] rfl)
        · skip
          refine lv_bipush (v := nI 32) hx hb dW_divisorLength_19 (by decide) ?_
          refine lv_bipush (v := nI 7) hx hb dW_divisorLength_21 (by decide) ?_
          refine lv_iload_n hx hb dW_divisorLength_23 rfl (lv_at hl 1 rfl) ?_
          refine lv_isub hx hb dW_divisorLength_24 ?_
          refine tp_i (y := nI (7 - i)) (pk_sub (by omega)) ?_
          refine lv_imul hx hb dW_divisorLength_25 ?_
          refine tp_i (y := nI (32 * (7 - i))) (pk_mul _ _) ?_
          refine lv_aload_n hx hb dW_divisorLength_26 rfl (lv_at hl 0 rfl) ?_
          refine va_get (D := D) (ci := 1) (v := .ref d) (C := RW) (T := TW) (N := 4) hx hb hts iW_divisorLength_W hown hK hP 0 rfl rfl 0 (by decide) (hts (.fieldLink RW 9 "TreeDesk$Worth" "divisor" "[J") (by decide +kernel)) (fun _ h9 => h9) rfl dW_divisorLength_27 ?_
          refine lv_iload_n hx hb dW_divisorLength_30 rfl (lv_at hl 1 rfl) ?_
          refine ar_lld (j := i) hx hb hK hP 1 1 rfl rfl dW_divisorLength_31 (by omega) (by omega) ?_
          refine ro_ki (va_runS (As := [.long (f i)]) (rest := [.int (nI (32 * (7 - i)))]) ⟨hx, hb, hml, hown, hts⟩ (c_B_lengthOf l D cI cJ cZ (f i)) (va_cwS 1 hts gW_divisorLength_B_lengthOf_66 rfl rfl rfl (by decide +kernel) ⟨Nat.le_of_ble_eq_true rfl, Nat.le_of_ble_eq_true rfl⟩) (ro_preS (hP.sub [] rfl) hK) rfl rfl hl.1 rfl (lv_room (Nat.le_of_ble_eq_true rfl)) dW_divisorLength_32 ⟨Nat.le_of_ble_eq_true rfl, Nat.le_of_ble_eq_true rfl⟩) ?_
          refine lv_iadd hx hb dW_divisorLength_35 ?_
          exact ro_iret hQ hx hb hr hlocks dW_divisorLength_36 (by rw [← hg, m_dlen, if_neg c_16])
  exact lp_2 9 8 0 (by omega) (by omega) rfl ls (lv_sub hl [1, 0] rfl)

abbrev rm_c_W_twice : Room := { frames := 0, cells := 0, slots := 0, locals := 0 }
set_option maxRecDepth 100000 in
set_option maxHeartbeats 4000000 in
theorem c_W_twice (l : Launch) (D : va_G) (cI cJ cZ : ClassId) (a : Nat) (f : Nat → Int64) (x : Int64)  : rw_C l yW_twice wW_twice rm_c_W_twice D vwCl (gT cI cJ cZ) [.ref a, .long x] [(a, .inl (cJ, 8, .inr (.inl f)))] (fun v9 w9 => v9 = none ∧ w9 = [(a, .inl (cJ, 8, .inr (.inl (m_tw f x))))]) 0 0 := by
  refine rw_of (cc := cW_twice) (maxL := 8) (ret := none) (by decide) rfl (Nat.le_of_ble_eq_true rfl) ?_
  intro p e s m args below meth c Q A ls hx hb hr hml hown hts hlocks hin hK hP hD hA hl hQ
  have hS : va_S A s.heap s.heap [] := va_S.rf
  have hl : lv_has ls 8 [(0, .ref a), (1, .long x)] := hl
  have hown : s.vm.findClass RW = some m.cls := hown
  obtain ⟨H, hHe⟩ : ∃ H : Heap, H = s.heap := ⟨_, rfl⟩
  rw [← hHe] at hP
  have hS : va_S A s.heap H [] := by rw [hHe]; exact va_S.rf
  suffices h9 : W p l e rm_c_W_twice s m args below meth c H [] 0 0 Q (F0 m 0 ls []) by rw [hHe] at h9; exact h9
  clear hHe
  refine lv_lload_n hx hb dW_twice_0 rfl (lv_at hl 1 rfl) ?_
  refine lv_lstore_n (lv' := [(3, .long x), (0, .ref a), (1, .long x)]) hx hb dW_twice_1 rfl hl (by decide) rfl (fun ls hl => ?_)
  refine lv_bipush (v := nI 7) hx hb dW_twice_2 (by decide) ?_
  refine lv_istore (lv' := [(5, .int (nI 7)), (3, .long x), (0, .ref a), (1, .long x)]) hx hb dW_twice_4 hl (by decide) rfl (fun ls hl => ?_)
  have lp_6 : ∀ (n_6 : Nat) (k : Nat) (i : Int32) (g : Nat → Int64) (cy : Int64), (k < n_6) → (k ≤ 8) → (i = nI k + (-1)) → (m_twL k g cy = m_twL 8 f x) → ∀ (H : Heap) (locs : List Loc), va_P D vwCl [(a, .inl (cJ, 8, .inr (.inl g)))] H → va_D A [(a, .inl (cJ, 8, .inr (.inl g)))] → va_S A s.heap H locs → ∀ (ls : Array Slot), lv_has ls 8 [(0, .ref a), (1, .long x), (3, .long cy), (5, .int i)] → W p l e rm_c_W_twice s m args below meth c H locs 0 0 Q (F0 m 6 ls []) := by
    intro n_6
    induction n_6 with
    | zero => intro k i g cy hn h8 hi hg H locs hP hD hS ls hl; exact absurd hn (by omega)
    | succ n_6 ih_6 =>
      intro k i g cy hn h8 hi hg H locs hP hD hS ls hl
      refine lv_iload hx hb dW_twice_6 (lv_at hl 3 rfl) ?_
      refine lv_if_lt (tgt := 43) hx hb dW_twice_8 (by decide) (fun c_8 => ?_) (fun c_8 => ?_)
      · skip
        have hk0 : k = 0 := dn_0 hi c_8 (by omega)
        subst hk0
        exact rw_vret (w := [(a, .inl (cJ, 8, .inr (.inl g)))]) hQ hx hb hr hlocks dW_twice_43 (hP.sub [0] rfl) (hD.sub [0] (by decide) rfl) hS ⟨rfl, by rw [show m_tw f x = g from hg.symm]⟩
      · skip
        obtain ⟨j, rfl, rfl⟩ := dn_s hi c_8
        refine lv_aload_n hx hb dW_twice_11 rfl (lv_at hl 0 rfl) ?_
        refine lv_iload hx hb dW_twice_12 (lv_at hl 3 rfl) ?_
        refine ar_lld (j := j) hx hb hK hP 0 1 rfl rfl dW_twice_14 (by omega) (by omega) ?_
        refine lv_iconst (v := nI 1) hx hb dW_twice_15 (by decide) ?_
        refine lv_lshl (v := j_shl (g j) (nI 1)) hx hb dW_twice_16 rfl ?_
        refine lv_lload_n hx hb dW_twice_17 rfl (lv_at hl 2 rfl) ?_
        refine lv_lor hx hb dW_twice_18 ?_
        refine lv_lstore (lv' := [(6, .long ((j_shl (g j) (nI 1)) ||| cy)), (0, .ref a), (1, .long x), (3, .long cy), (5, .int (nI j))]) hx hb dW_twice_19 hl (by decide) rfl (fun ls hl => ?_)
        refine lv_aload_n hx hb dW_twice_21 rfl (lv_at hl 1 rfl) ?_
        refine lv_iload hx hb dW_twice_22 (lv_at hl 4 rfl) ?_
        refine lv_lload hx hb dW_twice_24 (lv_at hl 0 rfl) ?_
        refine lv_ldc2 (v := 4294967295) hx hb hown (hts (.constantLong RW 38 4294967295) (by decide +kernel)) dW_twice_26 ?_
        refine lv_land hx hb dW_twice_29 ?_
        refine ar_lst (j := j) hx hb hK hP hD hS 0 1 rfl rfl dW_twice_30 (by omega) (by omega) (fun H locs hP hD hS => ?_)
        have hP : va_P D vwCl [(a, .inl (cJ, 8, .inr (.inl (vp_updL g j (((j_shl (g j) (nI 1)) ||| cy) &&& 4294967295)))))] H := hP
        have hD : va_D A [(a, .inl (cJ, 8, .inr (.inl (vp_updL g j (((j_shl (g j) (nI 1)) ||| cy) &&& 4294967295)))))] := hD
        refine lv_lload hx hb dW_twice_31 (lv_at hl 0 rfl) ?_
        refine lv_bipush (v := nI 32) hx hb dW_twice_33 (by decide) ?_
        refine lv_lushr (v := j_ushr ((j_shl (g j) (nI 1)) ||| cy) (nI 32)) hx hb dW_twice_35 rfl ?_
        refine lv_lstore_n (lv' := [(3, .long (j_ushr ((j_shl (g j) (nI 1)) ||| cy) (nI 32))), (6, .long ((j_shl (g j) (nI 1)) ||| cy)), (0, .ref a), (1, .long x), (5, .int (nI j))]) hx hb dW_twice_36 rfl hl (by decide) rfl (fun ls hl => ?_)
        refine lv_iinc (v := (nI j) + (-1)) (lv' := [(5, .int ((nI j) + (-1))), (3, .long (j_ushr ((j_shl (g j) (nI 1)) ||| cy) (nI 32))), (6, .long ((j_shl (g j) (nI 1)) ||| cy)), (0, .ref a), (1, .long x)]) hx hb dW_twice_37 hl (k := 4) rfl rfl (by decide) rfl (fun ls hl => ?_)
        refine lv_goto (tgt := 6) hx hb dW_twice_40 (by decide) ?_
        exact ih_6 j ((nI j) + (-1)) (vp_updL g j (((j_shl (g j) (nI 1)) ||| cy) &&& 4294967295)) (j_ushr ((j_shl (g j) (nI 1)) ||| cy) (nI 32)) (by omega) (by omega) rfl hg _ _ (hP.sub [0] rfl) (hD.sub [0] (by decide) rfl) hS ls (lv_sub hl [3, 4, 1, 0] rfl)
  exact lp_6 9 8 (nI 7) f x (by omega) (by omega) (pk_m1 7).symm rfl _ _ (hP.sub [0] rfl) (hD.sub [0] (by decide) rfl) hS ls (lv_sub hl [2, 3, 1, 0] rfl)

abbrev rm_c_W_restHolds : Room := { frames := 0, cells := 0, slots := 0, locals := 0 }
set_option maxRecDepth 100000 in
set_option maxHeartbeats 4000000 in
theorem c_W_restHolds (l : Launch) (D : va_G) (cI cJ cZ : ClassId) (o : Nat) (d : Nat) (r : Nat) (q : Nat) (kn : Int64) (f : Nat → Int64) (g : Nat → Int64)  : ro_C l yW_restHoldsDivisor wW_restHoldsDivisor rm_c_W_restHolds D vwCl (gT cI cJ cZ) [.ref o] [(o, .inr (1, [.ref d, .ref r, .ref q, .long kn])), (d, .inl (cJ, 8, .inr (.inl f))), (r, .inl (cJ, 8, .inr (.inl g)))] (some (.int (m_hold g f 8 0))) := by
  refine ro_of (cc := cW_restHoldsDivisor) (maxL := 2) (ret := some .boolean) (by decide) rfl (Nat.le_of_ble_eq_true rfl) ?_
  intro p e s m args below meth c Q ls hx hb hr hml hown hts hlocks hK hP hl hQ
  have hl : lv_has ls 2 [(0, .ref o)] := hl
  have hown : s.vm.findClass RW = some m.cls := hown
  refine lv_iconst (v := nI 0) hx hb dW_restHoldsDivisor_0 (by decide) ?_
  refine lv_istore_n (lv' := [(1, .int (nI 0)), (0, .ref o)]) hx hb dW_restHoldsDivisor_1 rfl hl (by decide) rfl (fun ls hl => ?_)
  have lp_2 : ∀ (n_2 : Nat) (n i : Nat), (n < n_2) → (i + n = 8) → (m_hold g f n i = m_hold g f 8 0) → ∀ (ls : Array Slot), lv_has ls 2 [(0, .ref o), (1, .int (nI i))] → W p l e rm_c_W_restHolds s m args below meth c s.heap [] 0 0 Q (F0 m 2 ls []) := by
    intro n_2
    induction n_2 with
    | zero => intro n i hn hd hg ls hl; exact absurd hn (by omega)
    | succ n_2 ih_2 =>
      intro n i hn hd hg ls hl
      refine lv_iload_n hx hb dW_restHoldsDivisor_2 rfl (lv_at hl 1 rfl) ?_
      refine lv_bipush (v := nI 8) hx hb dW_restHoldsDivisor_3 (by decide) ?_
      refine lv_icmp_ge (tgt := 52) hx hb dW_restHoldsDivisor_5 (by decide) (fun c_5 => ?_) (fun c_5 => ?_)
      · skip
        have c_5 : 8 ≤ i := n_le c_5 (by omega) (by omega)
        have hd0 : n = 0 := by omega
        subst hd0
        refine lv_iconst (v := nI 1) hx hb dW_restHoldsDivisor_52 (by decide) ?_
        exact ro_zret hQ hx hb hr hlocks dW_restHoldsDivisor_53 rfl (by rw [← hg]; rfl)
      · skip
        have c_5 : i < 8 := n_nle c_5 (by omega) (by omega)
        obtain ⟨n, rfl⟩ : ∃ d' : Nat, n = d' + 1 := ⟨n - 1, by omega⟩
        refine lv_aload_n hx hb dW_restHoldsDivisor_8 rfl (lv_at hl 0 rfl) ?_
        refine va_get (D := D) (ci := 1) (v := .ref r) (C := RW) (T := TW) (N := 4) hx hb hts iW_restHoldsDivisor_W hown hK hP 0 rfl rfl 1 (by decide) (hts (.fieldLink RW 15 "TreeDesk$Worth" "rest" "[J") (by decide +kernel)) (fun _ h9 => h9) rfl dW_restHoldsDivisor_9 ?_
        refine lv_iload_n hx hb dW_restHoldsDivisor_12 rfl (lv_at hl 1 rfl) ?_
        refine ar_lld (j := i) hx hb hK hP 2 1 rfl rfl dW_restHoldsDivisor_13 (by omega) (by omega) ?_
        refine lv_aload_n hx hb dW_restHoldsDivisor_14 rfl (lv_at hl 0 rfl) ?_
        refine va_get (D := D) (ci := 1) (v := .ref d) (C := RW) (T := TW) (N := 4) hx hb hts iW_restHoldsDivisor_W hown hK hP 0 rfl rfl 0 (by decide) (hts (.fieldLink RW 9 "TreeDesk$Worth" "divisor" "[J") (by decide +kernel)) (fun _ h9 => h9) rfl dW_restHoldsDivisor_15 ?_
        refine lv_iload_n hx hb dW_restHoldsDivisor_18 rfl (lv_at hl 1 rfl) ?_
        refine ar_lld (j := i) hx hb hK hP 1 1 rfl rfl dW_restHoldsDivisor_19 (by omega) (by omega) ?_
        refine lc_eq (tgt := 46) hx hb dW_restHoldsDivisor_20 dW_restHoldsDivisor_21 (by decide) (fun c_21 => ?_) (fun c_21 => ?_)
        · skip
          refine lv_iinc (v := nI (i + 1)) (lv' := [(1, .int (nI (i + 1))), (0, .ref o)]) hx hb dW_restHoldsDivisor_46 hl (k := 1) rfl (nI_add _ 1) (by decide) rfl (fun ls hl => ?_)
          refine lv_goto (tgt := 2) hx hb dW_restHoldsDivisor_49 (by decide) ?_
          exact ih_2 n (i + 1) (by omega) (by omega) (by rw [← hg, m_hold, if_pos c_21]) ls (lv_sub hl [1, 0] rfl)
        · skip
          refine lv_aload_n hx hb dW_restHoldsDivisor_24 rfl (lv_at hl 0 rfl) ?_
          refine va_get (D := D) (ci := 1) (v := .ref r) (C := RW) (T := TW) (N := 4) hx hb hts iW_restHoldsDivisor_W hown hK hP 0 rfl rfl 1 (by decide) (hts (.fieldLink RW 15 "TreeDesk$Worth" "rest" "[J") (by decide +kernel)) (fun _ h9 => h9) rfl dW_restHoldsDivisor_25 ?_
          refine lv_iload_n hx hb dW_restHoldsDivisor_28 rfl (lv_at hl 1 rfl) ?_
          refine ar_lld (j := i) hx hb hK hP 2 1 rfl rfl dW_restHoldsDivisor_29 (by omega) (by omega) ?_
          refine lv_aload_n hx hb dW_restHoldsDivisor_30 rfl (lv_at hl 0 rfl) ?_
          refine va_get (D := D) (ci := 1) (v := .ref d) (C := RW) (T := TW) (N := 4) hx hb hts iW_restHoldsDivisor_W hown hK hP 0 rfl rfl 0 (by decide) (hts (.fieldLink RW 9 "TreeDesk$Worth" "divisor" "[J") (by decide +kernel)) (fun _ h9 => h9) rfl dW_restHoldsDivisor_31 ?_
          refine lv_iload_n hx hb dW_restHoldsDivisor_34 rfl (lv_at hl 1 rfl) ?_
          refine ar_lld (j := i) hx hb hK hP 1 1 rfl rfl dW_restHoldsDivisor_35 (by omega) (by omega) ?_
          refine lc_le (tgt := 44) hx hb dW_restHoldsDivisor_36 dW_restHoldsDivisor_37 (by decide) (fun c_37 => ?_) (fun c_37 => ?_)
          · skip
            refine lv_iconst (v := nI 0) hx hb dW_restHoldsDivisor_44 (by decide) ?_
            exact ro_zret hQ hx hb hr hlocks dW_restHoldsDivisor_45 rfl (by rw [← hg, m_hold, if_neg c_21, if_pos c_37])
          · skip
            refine lv_iconst (v := nI 1) hx hb dW_restHoldsDivisor_40 (by decide) ?_
            refine lv_goto (tgt := 45) hx hb dW_restHoldsDivisor_41 (by decide) ?_
            exact ro_zret hQ hx hb hr hlocks dW_restHoldsDivisor_45 rfl (by rw [← hg, m_hold, if_neg c_21, if_neg c_37])
  exact lp_2 9 8 0 (by omega) (by omega) rfl ls (lv_sub hl [1, 0] rfl)

abbrev rm_c_W_subtract : Room := { frames := 0, cells := 0, slots := 0, locals := 0 }
set_option maxRecDepth 100000 in
set_option maxHeartbeats 4000000 in
theorem c_W_subtract (l : Launch) (D : va_G) (cI cJ cZ : ClassId) (o : Nat) (d : Nat) (r : Nat) (q : Nat) (kn : Int64) (f : Nat → Int64) (g0 : Nat → Int64)  : rw_C l yW_subtractDivisor wW_subtractDivisor rm_c_W_subtract D vwCl (gT cI cJ cZ) [.ref o] [(o, .inr (1, [.ref d, .ref r, .ref q, .long kn])), (d, .inl (cJ, 8, .inr (.inl f))), (r, .inl (cJ, 8, .inr (.inl g0)))] (fun v9 w9 => v9 = none ∧ w9 = [(o, .inr (1, [.ref d, .ref r, .ref q, .long kn])), (d, .inl (cJ, 8, .inr (.inl f))), (r, .inl (cJ, 8, .inr (.inl (m_sub g0 f))))]) 0 0 := by
  refine rw_of (cc := cW_subtractDivisor) (maxL := 6) (ret := none) (by decide) rfl (Nat.le_of_ble_eq_true rfl) ?_
  intro p e s m args below meth c Q A ls hx hb hr hml hown hts hlocks hin hK hP hD hA hl hQ
  have hS : va_S A s.heap s.heap [] := va_S.rf
  have hl : lv_has ls 6 [(0, .ref o)] := hl
  have hown : s.vm.findClass RW = some m.cls := hown
  obtain ⟨H, hHe⟩ : ∃ H : Heap, H = s.heap := ⟨_, rfl⟩
  rw [← hHe] at hP
  have hS : va_S A s.heap H [] := by rw [hHe]; exact va_S.rf
  suffices h9 : W p l e rm_c_W_subtract s m args below meth c H [] 0 0 Q (F0 m 0 ls []) by rw [hHe] at h9; exact h9
  clear hHe
  refine lv_lconst (v := 0) hx hb dW_subtractDivisor_0 (by decide) ?_
  refine lv_lstore_n (lv' := [(1, .long 0), (0, .ref o)]) hx hb dW_subtractDivisor_1 rfl hl (by decide) rfl (fun ls hl => ?_)
  refine lv_bipush (v := nI 7) hx hb dW_subtractDivisor_2 (by decide) ?_
  refine lv_istore_n (lv' := [(3, .int (nI 7)), (1, .long 0), (0, .ref o)]) hx hb dW_subtractDivisor_4 rfl hl (by decide) rfl (fun ls hl => ?_)
  have lp_5 : ∀ (n_5 : Nat) (k : Nat) (i : Int32) (g : Nat → Int64) (bo : Int64), (k < n_5) → (k ≤ 8) → (i = nI k + (-1)) → (m_subL f k g bo = m_subL f 8 g0 0) → ∀ (H : Heap) (locs : List Loc), va_P D vwCl [(o, .inr (1, [.ref d, .ref r, .ref q, .long kn])), (d, .inl (cJ, 8, .inr (.inl f))), (r, .inl (cJ, 8, .inr (.inl g)))] H → va_D A [(o, .inr (1, [.ref d, .ref r, .ref q, .long kn])), (d, .inl (cJ, 8, .inr (.inl f))), (r, .inl (cJ, 8, .inr (.inl g)))] → va_S A s.heap H locs → ∀ (ls : Array Slot), lv_has ls 6 [(0, .ref o), (1, .long bo), (3, .int i)] → W p l e rm_c_W_subtract s m args below meth c H locs 0 0 Q (F0 m 5 ls []) := by
    intro n_5
    induction n_5 with
    | zero => intro k i g bo hn h8 hi hg H locs hP hD hS ls hl; exact absurd hn (by omega)
    | succ n_5 ih_5 =>
      intro k i g bo hn h8 hi hg H locs hP hD hS ls hl
      refine lv_iload_n hx hb dW_subtractDivisor_5 rfl (lv_at hl 2 rfl) ?_
      refine lv_if_lt (tgt := 57) hx hb dW_subtractDivisor_6 (by decide) (fun c_6 => ?_) (fun c_6 => ?_)
      · skip
        have hk0 : k = 0 := dn_0 hi c_6 (by omega)
        subst hk0
        exact rw_vret (w := [(o, .inr (1, [.ref d, .ref r, .ref q, .long kn])), (d, .inl (cJ, 8, .inr (.inl f))), (r, .inl (cJ, 8, .inr (.inl g)))]) hQ hx hb hr hlocks dW_subtractDivisor_57 (hP.sub [0, 1, 2] rfl) (hD.sub [0, 1, 2] (by decide) rfl) hS ⟨rfl, by rw [show m_sub g0 f = g from hg.symm]⟩
      · skip
        obtain ⟨j, rfl, rfl⟩ := dn_s hi c_6
        refine lv_aload_n hx hb dW_subtractDivisor_9 rfl (lv_at hl 0 rfl) ?_
        refine va_get (D := D) (ci := 1) (v := .ref r) (C := RW) (T := TW) (N := 4) hx hb hts iW_subtractDivisor_W hown hK hP 0 rfl rfl 1 (by decide) (hts (.fieldLink RW 15 "TreeDesk$Worth" "rest" "[J") (by decide +kernel)) (fun _ h9 => h9) rfl dW_subtractDivisor_10 ?_
        refine lv_iload_n hx hb dW_subtractDivisor_13 rfl (lv_at hl 2 rfl) ?_
        refine ar_lld (j := j) hx hb hK hP 2 1 rfl rfl dW_subtractDivisor_14 (by omega) (by omega) ?_
        refine lv_aload_n hx hb dW_subtractDivisor_15 rfl (lv_at hl 0 rfl) ?_
        refine va_get (D := D) (ci := 1) (v := .ref d) (C := RW) (T := TW) (N := 4) hx hb hts iW_subtractDivisor_W hown hK hP 0 rfl rfl 0 (by decide) (hts (.fieldLink RW 9 "TreeDesk$Worth" "divisor" "[J") (by decide +kernel)) (fun _ h9 => h9) rfl dW_subtractDivisor_16 ?_
        refine lv_iload_n hx hb dW_subtractDivisor_19 rfl (lv_at hl 2 rfl) ?_
        refine ar_lld (j := j) hx hb hK hP 1 1 rfl rfl dW_subtractDivisor_20 (by omega) (by omega) ?_
        refine lv_lsub hx hb dW_subtractDivisor_21 ?_
        refine lv_lload_n hx hb dW_subtractDivisor_22 rfl (lv_at hl 1 rfl) ?_
        refine lv_lsub hx hb dW_subtractDivisor_23 ?_
        refine lv_lstore (lv' := [(4, .long (((g j) - (f j)) - bo)), (0, .ref o), (1, .long bo), (3, .int (nI j))]) hx hb dW_subtractDivisor_24 hl (by decide) rfl (fun ls hl => ?_)
        refine lv_aload_n hx hb dW_subtractDivisor_26 rfl (lv_at hl 1 rfl) ?_
        refine va_get (D := D) (ci := 1) (v := .ref r) (C := RW) (T := TW) (N := 4) hx hb hts iW_subtractDivisor_W hown hK hP 0 rfl rfl 1 (by decide) (hts (.fieldLink RW 15 "TreeDesk$Worth" "rest" "[J") (by decide +kernel)) (fun _ h9 => h9) rfl dW_subtractDivisor_27 ?_
        refine lv_iload_n hx hb dW_subtractDivisor_30 rfl (lv_at hl 3 rfl) ?_
        refine lv_lload hx hb dW_subtractDivisor_31 (lv_at hl 0 rfl) ?_
        refine lv_ldc2 (v := 4294967295) hx hb hown (hts (.constantLong RW 38 4294967295) (by decide +kernel)) dW_subtractDivisor_33 ?_
        refine lv_land hx hb dW_subtractDivisor_36 ?_
        refine ar_lst (j := j) hx hb hK hP hD hS 2 1 rfl rfl dW_subtractDivisor_37 (by omega) (by omega) (fun H locs hP hD hS => ?_)
        have hP : va_P D vwCl [(o, .inr (1, [.ref d, .ref r, .ref q, .long kn])), (d, .inl (cJ, 8, .inr (.inl f))), (r, .inl (cJ, 8, .inr (.inl (vp_updL g j ((((g j) - (f j)) - bo) &&& 4294967295)))))] H := hP
        have hD : va_D A [(o, .inr (1, [.ref d, .ref r, .ref q, .long kn])), (d, .inl (cJ, 8, .inr (.inl f))), (r, .inl (cJ, 8, .inr (.inl (vp_updL g j ((((g j) - (f j)) - bo) &&& 4294967295)))))] := hD
        refine lv_lload hx hb dW_subtractDivisor_38 (lv_at hl 0 rfl) ?_
        refine lv_lconst (v := 0) hx hb dW_subtractDivisor_40 (by decide) ?_
        refine lc_ge (tgt := 49) hx hb dW_subtractDivisor_41 dW_subtractDivisor_42 (by decide) (fun c_42 => ?_) (fun c_42 => ?_)
        · skip
          refine lv_lconst (v := 0) hx hb dW_subtractDivisor_49 (by decide) ?_
          refine lv_lstore_n (lv' := [(1, .long 0), (4, .long (((g j) - (f j)) - bo)), (0, .ref o), (3, .int (nI j))]) hx hb dW_subtractDivisor_50 rfl hl (by decide) rfl (fun ls hl => ?_)
          refine lv_iinc (v := (nI j) + (-1)) (lv' := [(3, .int ((nI j) + (-1))), (1, .long 0), (4, .long (((g j) - (f j)) - bo)), (0, .ref o)]) hx hb dW_subtractDivisor_51 hl (k := 3) rfl rfl (by decide) rfl (fun ls hl => ?_)
          refine lv_goto (tgt := 5) hx hb dW_subtractDivisor_54 (by decide) ?_
          exact ih_5 j ((nI j) + (-1)) (vp_updL g j ((((g j) - (f j)) - bo) &&& 4294967295)) 0 (by omega) (by omega) rfl (by rw [← hg, m_subL, if_pos c_42]) _ _ (hP.sub [0, 1, 2] rfl) (hD.sub [0, 1, 2] (by decide) rfl) hS ls (lv_sub hl [3, 1, 0] rfl)
        · skip
          refine lv_lconst (v := 1) hx hb dW_subtractDivisor_45 (by decide) ?_
          refine lv_goto (tgt := 50) hx hb dW_subtractDivisor_46 (by decide) ?_
          refine lv_lstore_n (lv' := [(1, .long 1), (4, .long (((g j) - (f j)) - bo)), (0, .ref o), (3, .int (nI j))]) hx hb dW_subtractDivisor_50 rfl hl (by decide) rfl (fun ls hl => ?_)
          refine lv_iinc (v := (nI j) + (-1)) (lv' := [(3, .int ((nI j) + (-1))), (1, .long 1), (4, .long (((g j) - (f j)) - bo)), (0, .ref o)]) hx hb dW_subtractDivisor_51 hl (k := 3) rfl rfl (by decide) rfl (fun ls hl => ?_)
          refine lv_goto (tgt := 5) hx hb dW_subtractDivisor_54 (by decide) ?_
          exact ih_5 j ((nI j) + (-1)) (vp_updL g j ((((g j) - (f j)) - bo) &&& 4294967295)) 1 (by omega) (by omega) rfl (by rw [← hg, m_subL, if_neg c_42]) _ _ (hP.sub [0, 1, 2] rfl) (hD.sub [0, 1, 2] (by decide) rfl) hS ls (lv_sub hl [3, 1, 0] rfl)
  exact lp_5 9 8 (nI 7) g0 0 (by omega) (by omega) (pk_m1 7).symm rfl _ _ (hP.sub [0, 1, 2] rfl) (hD.sub [0, 1, 2] (by decide) rfl) hS ls (lv_sub hl [2, 1, 0] rfl)

abbrev rm_c_W_divide : Room := { frames := 4, cells := 0, slots := 0, locals := 85 }
set_option maxRecDepth 100000 in
set_option maxHeartbeats 4000000 in
theorem c_W_divide (l : Launch) (D : va_G) (cI cJ cZ : ClassId) (o : Nat) (d : Nat) (r : Nat) (q : Nat) (kn : Int64) (f : Nat → Int64) (g0 : Nat → Int64) (h0 : Nat → Int64) (Ld : Nat) (hLd : m_dlen f 8 0 = nI Ld) (hL2 : 2 ≤ Ld) (hL6 : Ld ≤ 256) : rw_C l yW_divide wW_divide rm_c_W_divide D vwCl (gT cI cJ cZ) [.ref o] [(o, .inr (1, [.ref d, .ref r, .ref q, .long kn])), (d, .inl (cJ, 8, .inr (.inl f))), (r, .inl (cJ, 8, .inr (.inl g0))), (q, .inl (cJ, 8, .inr (.inl h0)))] (fun v9 w9 => v9 = none ∧ w9 = [(o, .inr (1, [.ref d, .ref r, .ref q, .long kn])), (d, .inl (cJ, 8, .inr (.inl f))), (r, .inl (cJ, 8, .inr (.inl ((m_dv f g0 h0 (Ld - 2)).1)))), (q, .inl (cJ, 8, .inr (.inl ((m_dv f g0 h0 (Ld - 2)).2))))]) 0 0 := by
  refine rw_of (cc := cW_divide) (maxL := 4) (ret := none) (by decide) rfl (Nat.le_of_ble_eq_true rfl) ?_
  intro p e s m args below meth c Q A ls hx hb hr hml hown hts hlocks hin hK hP hD hA hl hQ
  have hS : va_S A s.heap s.heap [] := va_S.rf
  have hl : lv_has ls 4 [(0, .ref o)] := hl
  have hown : s.vm.findClass RW = some m.cls := hown
  obtain ⟨H, hHe⟩ : ∃ H : Heap, H = s.heap := ⟨_, rfl⟩
  rw [← hHe] at hP
  have hS : va_S A s.heap H [] := by rw [hHe]; exact va_S.rf
  suffices h9 : W p l e rm_c_W_divide s m args below meth c H [] 0 0 Q (F0 m 0 ls []) by rw [hHe] at h9; exact h9
  clear hHe
  refine lv_aload_n hx hb dW_divide_0 rfl (lv_at hl 0 rfl) ?_
  refine va_get (D := D) (ci := 1) (v := .ref r) (C := RW) (T := TW) (N := 4) hx hb hts iW_divide_W hown hK hP 0 rfl rfl 1 (by decide) (hts (.fieldLink RW 15 "TreeDesk$Worth" "rest" "[J") (by decide +kernel)) (fun _ h9 => h9) rfl dW_divide_1 ?_
  refine lv_lconst (v := 0) hx hb dW_divide_4 (by decide) ?_
  refine rw_k (wc := [(r, .inl (cJ, 8, .inr (.inl g0)))]) (wr := [(o, .inr (1, [.ref d, .ref r, .ref q, .long kn])), (d, .inl (cJ, 8, .inr (.inl f))), (q, .inl (cJ, 8, .inr (.inl h0)))]) (va_runS (As := [.ref r, .long 0]) (rest := []) ⟨hx, hb, hml, hown, hts⟩ (c_J_fill l D cI cJ cZ r 8 g0 0 (by omega) H.size) (va_cwS 2 hts gW_divide_JA_fill_40 rfl rfl rfl (by decide +kernel) ⟨Nat.le_of_ble_eq_true rfl, Nat.le_of_ble_eq_true rfl⟩) (rw_preS (hP.sub [2] rfl) hK (hD.sub [2] (by decide) rfl)) rfl rfl hl.1 rfl (lv_room (Nat.le_of_ble_eq_true rfl)) dW_divide_5 ⟨Nat.le_of_ble_eq_true rfl, Nat.le_of_ble_eq_true rfl⟩) hP hD hS hA [2] [0, 1, 3] rfl rfl (by decide) (by decide) (fun v9 w9 H locs hp9 hP hD hS => ?_)
  obtain ⟨rfl, rfl⟩ := hp9
  have hP : va_P D vwCl [(o, .inr (1, [.ref d, .ref r, .ref q, .long kn])), (d, .inl (cJ, 8, .inr (.inl f))), (q, .inl (cJ, 8, .inr (.inl h0))), (r, .inl (cJ, 8, .inr (.inl (m_fill g0 8 0))))] H := hP
  have hD : va_D A [(o, .inr (1, [.ref d, .ref r, .ref q, .long kn])), (d, .inl (cJ, 8, .inr (.inl f))), (q, .inl (cJ, 8, .inr (.inl h0))), (r, .inl (cJ, 8, .inr (.inl (m_fill g0 8 0))))] := hD
  refine W.eq (g2 := F0 m 8 ls []) rfl ?_
  refine lv_aload_n hx hb dW_divide_8 rfl (lv_at hl 0 rfl) ?_
  refine va_get (D := D) (ci := 1) (v := .ref q) (C := RW) (T := TW) (N := 4) hx hb hts iW_divide_W hown hK hP 0 rfl rfl 2 (by decide) (hts (.fieldLink RW 18 "TreeDesk$Worth" "quotient" "[J") (by decide +kernel)) (fun _ h9 => h9) rfl dW_divide_9 ?_
  refine lv_lconst (v := 0) hx hb dW_divide_12 (by decide) ?_
  refine rw_k (wc := [(q, .inl (cJ, 8, .inr (.inl h0)))]) (wr := [(o, .inr (1, [.ref d, .ref r, .ref q, .long kn])), (d, .inl (cJ, 8, .inr (.inl f))), (r, .inl (cJ, 8, .inr (.inl (m_fill g0 8 0))))]) (va_runS (As := [.ref q, .long 0]) (rest := []) ⟨hx, hb, hml, hown, hts⟩ (c_J_fill l D cI cJ cZ q 8 h0 0 (by omega) H.size) (va_cwS 2 hts gW_divide_JA_fill_40 rfl rfl rfl (by decide +kernel) ⟨Nat.le_of_ble_eq_true rfl, Nat.le_of_ble_eq_true rfl⟩) (rw_preS (hP.sub [2] rfl) hK (hD.sub [2] (by decide) rfl)) rfl rfl hl.1 rfl (lv_room (Nat.le_of_ble_eq_true rfl)) dW_divide_13 ⟨Nat.le_of_ble_eq_true rfl, Nat.le_of_ble_eq_true rfl⟩) hP hD hS hA [2] [0, 1, 3] rfl rfl (by decide) (by decide) (fun v9 w9 H locs hp9 hP hD hS => ?_)
  obtain ⟨rfl, rfl⟩ := hp9
  have hP : va_P D vwCl [(o, .inr (1, [.ref d, .ref r, .ref q, .long kn])), (d, .inl (cJ, 8, .inr (.inl f))), (r, .inl (cJ, 8, .inr (.inl (m_fill g0 8 0)))), (q, .inl (cJ, 8, .inr (.inl (m_fill h0 8 0))))] H := hP
  have hD : va_D A [(o, .inr (1, [.ref d, .ref r, .ref q, .long kn])), (d, .inl (cJ, 8, .inr (.inl f))), (r, .inl (cJ, 8, .inr (.inl (m_fill g0 8 0)))), (q, .inl (cJ, 8, .inr (.inl (m_fill h0 8 0))))] := hD
  refine W.eq (g2 := F0 m 16 ls []) rfl ?_
  refine lv_iconst (v := nI 0) hx hb dW_divide_16 (by decide) ?_
  refine lv_aload_n hx hb dW_divide_17 rfl (lv_at hl 0 rfl) ?_
  refine ro_ki (va_runV (As := []) (rest := [.int (nI 0)]) ⟨hx, hb, hml, hown, hts⟩ (c_W_divisorLength l D cI cJ cZ o d r q kn f) (cwV 0 hts gW_divide_W_divisorLength_46 rfl rfl rfl (by decide +kernel) ⟨Nat.le_of_ble_eq_true rfl, Nat.le_of_ble_eq_true rfl⟩) (ro_preV (hP.sub [0, 1] rfl) hK (va_recv hK hP (ci := 1) (q0 := 0) rfl rfl)) rfl rfl hl.1 rfl (lv_room (Nat.le_of_ble_eq_true rfl)) dW_divide_18 ⟨Nat.le_of_ble_eq_true rfl, Nat.le_of_ble_eq_true rfl⟩) ?_
  refine tp_i (y := nI Ld) hLd ?_
  refine lv_iconst (v := nI 2) hx hb dW_divide_21 (by decide) ?_
  refine lv_isub hx hb dW_divide_22 ?_
  refine tp_i (y := nI (Ld - 2)) (pk_sub (by omega)) ?_
  refine va_mmax hx hb (hml.trans hl.1.symm) hown (hts (.methodLink RW 50 Lib.Math.max.name) (by decide +kernel)) (hts (.static Lib.Math.max.name) (by decide +kernel)) (hts (.initialized "java/lang/Math") (by decide +kernel)) (hts (.code Lib.Math.max.name Lib.Math.max.code 2 (some .int)) (by decide +kernel)) (Nat.le_of_ble_eq_true rfl) (Nat.le_of_ble_eq_true rfl) (Nat.le_of_ble_eq_true rfl) (Nat.le_of_ble_eq_true rfl) dW_divide_23 ?_
  refine tp_i (y := nI (Ld - 2)) (mx_0 (by omega)) ?_
  refine lv_istore_n (lv' := [(1, .int (nI (Ld - 2))), (0, .ref o)]) hx hb dW_divide_26 rfl hl (by decide) rfl (fun ls hl => ?_)
  refine lv_aload_n hx hb dW_divide_27 rfl (lv_at hl 1 rfl) ?_
  refine va_get (D := D) (ci := 1) (v := .ref r) (C := RW) (T := TW) (N := 4) hx hb hts iW_divide_W hown hK hP 0 rfl rfl 1 (by decide) (hts (.fieldLink RW 15 "TreeDesk$Worth" "rest" "[J") (by decide +kernel)) (fun _ h9 => h9) rfl dW_divide_28 ?_
  refine lv_bipush (v := nI 7) hx hb dW_divide_31 (by decide) ?_
  refine lv_iload_n hx hb dW_divide_33 rfl (lv_at hl 0 rfl) ?_
  refine lv_bipush (v := nI 32) hx hb dW_divide_34 (by decide) ?_
  refine lv_idiv hx hb dW_divide_36 (nI_ne0 (by omega) (by omega)) ?_
  refine tp_i (y := nI ((Ld - 2) / 32)) (pk_div (by omega) (by omega) (by omega)) ?_
  refine lv_isub hx hb dW_divide_37 ?_
  refine tp_i (y := nI (7 - ((Ld - 2) / 32))) (pk_sub (by omega)) ?_
  refine lv_lconst (v := 1) hx hb dW_divide_38 (by decide) ?_
  refine lv_iload_n hx hb dW_divide_39 rfl (lv_at hl 0 rfl) ?_
  refine lv_bipush (v := nI 32) hx hb dW_divide_40 (by decide) ?_
  refine lv_irem hx hb dW_divide_42 (nI_ne0 (by omega) (by omega)) ?_
  refine tp_i (y := nI ((Ld - 2) % 32)) (pk_rem (by omega) (by omega) (by omega)) ?_
  refine lv_lshl (v := j_shl 1 (nI ((Ld - 2) % 32))) hx hb dW_divide_43 rfl ?_
  refine ar_lst (j := 7 - ((Ld - 2) / 32)) hx hb hK hP hD hS 2 1 rfl rfl dW_divide_44 (by omega) (by omega) (fun H locs hP hD hS => ?_)
  have hP : va_P D vwCl [(o, .inr (1, [.ref d, .ref r, .ref q, .long kn])), (d, .inl (cJ, 8, .inr (.inl f))), (r, .inl (cJ, 8, .inr (.inl (vp_updL (m_fill g0 8 0) (7 - ((Ld - 2) / 32)) (j_shl 1 (nI ((Ld - 2) % 32))))))), (q, .inl (cJ, 8, .inr (.inl (m_fill h0 8 0))))] H := hP
  have hD : va_D A [(o, .inr (1, [.ref d, .ref r, .ref q, .long kn])), (d, .inl (cJ, 8, .inr (.inl f))), (r, .inl (cJ, 8, .inr (.inl (vp_updL (m_fill g0 8 0) (7 - ((Ld - 2) / 32)) (j_shl 1 (nI ((Ld - 2) % 32))))))), (q, .inl (cJ, 8, .inr (.inl (m_fill h0 8 0))))] := hD
  refine lv_iload_n hx hb dW_divide_45 rfl (lv_at hl 0 rfl) ?_
  refine lv_istore_n (lv' := [(2, .int (nI (Ld - 2))), (1, .int (nI (Ld - 2))), (0, .ref o)]) hx hb dW_divide_46 rfl hl (by decide) rfl (fun ls hl => ?_)
  have lp_47 : ∀ (n_47 : Nat) (n i : Nat) (g h : Nat → Int64), (n < n_47) → (i + n = 256) → (m_dvL f n g h = m_dv f g0 h0 (Ld - 2)) → ∀ (H : Heap) (locs : List Loc), va_P D vwCl [(o, .inr (1, [.ref d, .ref r, .ref q, .long kn])), (d, .inl (cJ, 8, .inr (.inl f))), (r, .inl (cJ, 8, .inr (.inl g))), (q, .inl (cJ, 8, .inr (.inl h)))] H → va_D A [(o, .inr (1, [.ref d, .ref r, .ref q, .long kn])), (d, .inl (cJ, 8, .inr (.inl f))), (r, .inl (cJ, 8, .inr (.inl g))), (q, .inl (cJ, 8, .inr (.inl h)))] → va_S A s.heap H locs → ∀ (ls : Array Slot), lv_has ls 4 [(0, .ref o), (2, .int (nI i))] → W p l e rm_c_W_divide s m args below meth c H locs 0 0 Q (F0 m 47 ls []) := by
    intro n_47
    induction n_47 with
    | zero => intro n i g h hn hd hg H locs hP hD hS ls hl; exact absurd hn (by omega)
    | succ n_47 ih_47 =>
      intro n i g h hn hd hg H locs hP hD hS ls hl
      refine lv_iload_n hx hb dW_divide_47 rfl (lv_at hl 1 rfl) ?_
      refine lv_sipush (v := nI 256) hx hb dW_divide_48 (by decide) ?_
      refine lv_icmp_ge (tgt := 97) hx hb dW_divide_51 (by decide) (fun c_51 => ?_) (fun c_51 => ?_)
      · skip
        have c_51 : 256 ≤ i := n_le c_51 (by omega) (by omega)
        have hd0 : n = 0 := by omega
        subst hd0
        exact rw_vret (w := [(o, .inr (1, [.ref d, .ref r, .ref q, .long kn])), (d, .inl (cJ, 8, .inr (.inl f))), (r, .inl (cJ, 8, .inr (.inl g))), (q, .inl (cJ, 8, .inr (.inl h)))]) hQ hx hb hr hlocks dW_divide_97 (hP.sub [0, 1, 2, 3] rfl) (hD.sub [0, 1, 2, 3] (by decide) rfl) hS ⟨rfl, by rw [show m_dv f g0 h0 (Ld - 2) = (g, h) from hg.symm]⟩
      · skip
        have c_51 : i < 256 := n_nle c_51 (by omega) (by omega)
        obtain ⟨n, rfl⟩ : ∃ d' : Nat, n = d' + 1 := ⟨n - 1, by omega⟩
        refine lv_aload_n hx hb dW_divide_54 rfl (lv_at hl 0 rfl) ?_
        refine va_get (D := D) (ci := 1) (v := .ref r) (C := RW) (T := TW) (N := 4) hx hb hts iW_divide_W hown hK hP 0 rfl rfl 1 (by decide) (hts (.fieldLink RW 15 "TreeDesk$Worth" "rest" "[J") (by decide +kernel)) (fun _ h9 => h9) rfl dW_divide_55 ?_
        refine lv_lconst (v := 0) hx hb dW_divide_58 (by decide) ?_
        refine rw_k (wc := [(r, .inl (cJ, 8, .inr (.inl g)))]) (wr := [(o, .inr (1, [.ref d, .ref r, .ref q, .long kn])), (d, .inl (cJ, 8, .inr (.inl f))), (q, .inl (cJ, 8, .inr (.inl h)))]) (va_runS (As := [.ref r, .long 0]) (rest := []) ⟨hx, hb, hml, hown, hts⟩ (c_W_twice l D cI cJ cZ r g 0 H.size) (va_cwS 2 hts gW_divide_W_twice_56 rfl rfl rfl (by decide +kernel) ⟨Nat.le_of_ble_eq_true rfl, Nat.le_of_ble_eq_true rfl⟩) (rw_preS (hP.sub [2] rfl) hK (hD.sub [2] (by decide) rfl)) rfl rfl hl.1 rfl (lv_room (Nat.le_of_ble_eq_true rfl)) dW_divide_59 ⟨Nat.le_of_ble_eq_true rfl, Nat.le_of_ble_eq_true rfl⟩) hP hD hS hA [2] [0, 1, 3] rfl rfl (by decide) (by decide) (fun v9 w9 H locs hp9 hP hD hS => ?_)
        obtain ⟨rfl, rfl⟩ := hp9
        have hP : va_P D vwCl [(o, .inr (1, [.ref d, .ref r, .ref q, .long kn])), (d, .inl (cJ, 8, .inr (.inl f))), (q, .inl (cJ, 8, .inr (.inl h))), (r, .inl (cJ, 8, .inr (.inl (m_tw g 0))))] H := hP
        have hD : va_D A [(o, .inr (1, [.ref d, .ref r, .ref q, .long kn])), (d, .inl (cJ, 8, .inr (.inl f))), (q, .inl (cJ, 8, .inr (.inl h))), (r, .inl (cJ, 8, .inr (.inl (m_tw g 0))))] := hD
        refine W.eq (g2 := F0 m 62 ls []) rfl ?_
        refine lv_aload_n hx hb dW_divide_62 rfl (lv_at hl 0 rfl) ?_
        refine ro_ki (va_runV (As := []) (rest := []) ⟨hx, hb, hml, hown, hts⟩ (c_W_restHolds l D cI cJ cZ o d r q kn f (m_tw g 0)) (cwV 0 hts gW_divide_W_restHoldsDivisor_59 rfl rfl rfl (by decide +kernel) ⟨Nat.le_of_ble_eq_true rfl, Nat.le_of_ble_eq_true rfl⟩) (ro_preV (hP.sub [0, 1, 3] rfl) hK (va_recv hK hP (ci := 1) (q0 := 0) rfl rfl)) rfl rfl hl.1 rfl (lv_room (Nat.le_of_ble_eq_true rfl)) dW_divide_63 ⟨Nat.le_of_ble_eq_true rfl, Nat.le_of_ble_eq_true rfl⟩) ?_
        refine lv_istore_n (lv' := [(3, .int (m_hold (m_tw g 0) f 8 0)), (0, .ref o), (2, .int (nI i))]) hx hb dW_divide_66 rfl hl (by decide) rfl (fun ls hl => ?_)
        refine lv_iload_n hx hb dW_divide_67 rfl (lv_at hl 0 rfl) ?_
        refine lv_if_eq (tgt := 75) hx hb dW_divide_68 (by decide) (fun c_68 => ?_) (fun c_68 => ?_)
        · skip
          refine lv_aload_n hx hb dW_divide_75 rfl (lv_at hl 1 rfl) ?_
          refine va_get (D := D) (ci := 1) (v := .ref q) (C := RW) (T := TW) (N := 4) hx hb hts iW_divide_W hown hK hP 0 rfl rfl 2 (by decide) (hts (.fieldLink RW 18 "TreeDesk$Worth" "quotient" "[J") (by decide +kernel)) (fun _ h9 => h9) rfl dW_divide_76 ?_
          refine lv_iload_n hx hb dW_divide_79 rfl (lv_at hl 0 rfl) ?_
          refine lv_if_eq (tgt := 87) hx hb dW_divide_80 (by decide) (fun c_80 => ?_) (fun c_80 => ?_)
          · skip
            refine lv_lconst (v := 0) hx hb dW_divide_87 (by decide) ?_
            refine rw_k (wc := [(q, .inl (cJ, 8, .inr (.inl h)))]) (wr := [(o, .inr (1, [.ref d, .ref r, .ref q, .long kn])), (d, .inl (cJ, 8, .inr (.inl f))), (r, .inl (cJ, 8, .inr (.inl (m_tw g 0))))]) (va_runS (As := [.ref q, .long 0]) (rest := []) ⟨hx, hb, hml, hown, hts⟩ (c_W_twice l D cI cJ cZ q h 0 H.size) (va_cwS 2 hts gW_divide_W_twice_56 rfl rfl rfl (by decide +kernel) ⟨Nat.le_of_ble_eq_true rfl, Nat.le_of_ble_eq_true rfl⟩) (rw_preS (hP.sub [2] rfl) hK (hD.sub [2] (by decide) rfl)) rfl rfl hl.1 rfl (lv_room (Nat.le_of_ble_eq_true rfl)) dW_divide_88 ⟨Nat.le_of_ble_eq_true rfl, Nat.le_of_ble_eq_true rfl⟩) hP hD hS hA [2] [0, 1, 3] rfl rfl (by decide) (by decide) (fun v9 w9 H locs hp9 hP hD hS => ?_)
            obtain ⟨rfl, rfl⟩ := hp9
            have hP : va_P D vwCl [(o, .inr (1, [.ref d, .ref r, .ref q, .long kn])), (d, .inl (cJ, 8, .inr (.inl f))), (r, .inl (cJ, 8, .inr (.inl (m_tw g 0)))), (q, .inl (cJ, 8, .inr (.inl (m_tw h 0))))] H := hP
            have hD : va_D A [(o, .inr (1, [.ref d, .ref r, .ref q, .long kn])), (d, .inl (cJ, 8, .inr (.inl f))), (r, .inl (cJ, 8, .inr (.inl (m_tw g 0)))), (q, .inl (cJ, 8, .inr (.inl (m_tw h 0))))] := hD
            refine W.eq (g2 := F0 m 91 ls []) rfl ?_
            refine lv_iinc (v := nI (i + 1)) (lv' := [(2, .int (nI (i + 1))), (3, .int (m_hold (m_tw g 0) f 8 0)), (0, .ref o)]) hx hb dW_divide_91 hl (k := 2) rfl (nI_add _ 1) (by decide) rfl (fun ls hl => ?_)
            refine lv_goto (tgt := 47) hx hb dW_divide_94 (by decide) ?_
            exact ih_47 n (i + 1) (m_tw g 0) (m_tw h 0) (by omega) (by omega) (by rw [← hg, m_dvL, if_pos c_68]) _ _ (hP.sub [0, 1, 2, 3] rfl) (hD.sub [0, 1, 2, 3] (by decide) rfl) hS ls (lv_sub hl [2, 0] rfl)
          · skip
            exact absurd c_68 c_80
        · skip
          refine lv_aload_n hx hb dW_divide_71 rfl (lv_at hl 1 rfl) ?_
          refine rw_k (wc := [(o, .inr (1, [.ref d, .ref r, .ref q, .long kn])), (d, .inl (cJ, 8, .inr (.inl f))), (r, .inl (cJ, 8, .inr (.inl (m_tw g 0))))]) (wr := [(q, .inl (cJ, 8, .inr (.inl h)))]) (va_runV (As := []) (rest := []) ⟨hx, hb, hml, hown, hts⟩ (c_W_subtract l D cI cJ cZ o d r q kn f (m_tw g 0) H.size) (cwV 0 hts gW_divide_W_subtractDivisor_63 rfl rfl rfl (by decide +kernel) ⟨Nat.le_of_ble_eq_true rfl, Nat.le_of_ble_eq_true rfl⟩) (rw_preV (hP.sub [0, 1, 3] rfl) hK (hD.sub [0, 1, 3] (by decide) rfl) (va_recv hK hP (ci := 1) (q0 := 0) rfl rfl)) rfl rfl hl.1 rfl (lv_room (Nat.le_of_ble_eq_true rfl)) dW_divide_72 ⟨Nat.le_of_ble_eq_true rfl, Nat.le_of_ble_eq_true rfl⟩) hP hD hS hA [0, 1, 3] [2] rfl rfl (by decide) (by decide) (fun v9 w9 H locs hp9 hP hD hS => ?_)
          obtain ⟨rfl, rfl⟩ := hp9
          have hP : va_P D vwCl [(q, .inl (cJ, 8, .inr (.inl h))), (o, .inr (1, [.ref d, .ref r, .ref q, .long kn])), (d, .inl (cJ, 8, .inr (.inl f))), (r, .inl (cJ, 8, .inr (.inl (m_sub (m_tw g 0) f))))] H := hP
          have hD : va_D A [(q, .inl (cJ, 8, .inr (.inl h))), (o, .inr (1, [.ref d, .ref r, .ref q, .long kn])), (d, .inl (cJ, 8, .inr (.inl f))), (r, .inl (cJ, 8, .inr (.inl (m_sub (m_tw g 0) f))))] := hD
          refine W.eq (g2 := F0 m 75 ls []) rfl ?_
          refine lv_aload_n hx hb dW_divide_75 rfl (lv_at hl 1 rfl) ?_
          refine va_get (D := D) (ci := 1) (v := .ref q) (C := RW) (T := TW) (N := 4) hx hb hts iW_divide_W hown hK hP 1 rfl rfl 2 (by decide) (hts (.fieldLink RW 18 "TreeDesk$Worth" "quotient" "[J") (by decide +kernel)) (fun _ h9 => h9) rfl dW_divide_76 ?_
          refine lv_iload_n hx hb dW_divide_79 rfl (lv_at hl 0 rfl) ?_
          refine lv_if_eq (tgt := 87) hx hb dW_divide_80 (by decide) (fun c_80 => ?_) (fun c_80 => ?_)
          · skip
            exact absurd c_80 c_68
          · skip
            refine lv_lconst (v := 1) hx hb dW_divide_83 (by decide) ?_
            refine lv_goto (tgt := 88) hx hb dW_divide_84 (by decide) ?_
            refine rw_k (wc := [(q, .inl (cJ, 8, .inr (.inl h)))]) (wr := [(o, .inr (1, [.ref d, .ref r, .ref q, .long kn])), (d, .inl (cJ, 8, .inr (.inl f))), (r, .inl (cJ, 8, .inr (.inl (m_sub (m_tw g 0) f))))]) (va_runS (As := [.ref q, .long 1]) (rest := []) ⟨hx, hb, hml, hown, hts⟩ (c_W_twice l D cI cJ cZ q h 1 H.size) (va_cwS 2 hts gW_divide_W_twice_56 rfl rfl rfl (by decide +kernel) ⟨Nat.le_of_ble_eq_true rfl, Nat.le_of_ble_eq_true rfl⟩) (rw_preS (hP.sub [0] rfl) hK (hD.sub [0] (by decide) rfl)) rfl rfl hl.1 rfl (lv_room (Nat.le_of_ble_eq_true rfl)) dW_divide_88 ⟨Nat.le_of_ble_eq_true rfl, Nat.le_of_ble_eq_true rfl⟩) hP hD hS hA [0] [1, 2, 3] rfl rfl (by decide) (by decide) (fun v9 w9 H locs hp9 hP hD hS => ?_)
            obtain ⟨rfl, rfl⟩ := hp9
            have hP : va_P D vwCl [(o, .inr (1, [.ref d, .ref r, .ref q, .long kn])), (d, .inl (cJ, 8, .inr (.inl f))), (r, .inl (cJ, 8, .inr (.inl (m_sub (m_tw g 0) f)))), (q, .inl (cJ, 8, .inr (.inl (m_tw h 1))))] H := hP
            have hD : va_D A [(o, .inr (1, [.ref d, .ref r, .ref q, .long kn])), (d, .inl (cJ, 8, .inr (.inl f))), (r, .inl (cJ, 8, .inr (.inl (m_sub (m_tw g 0) f)))), (q, .inl (cJ, 8, .inr (.inl (m_tw h 1))))] := hD
            refine W.eq (g2 := F0 m 91 ls []) rfl ?_
            refine lv_iinc (v := nI (i + 1)) (lv' := [(2, .int (nI (i + 1))), (3, .int (m_hold (m_tw g 0) f 8 0)), (0, .ref o)]) hx hb dW_divide_91 hl (k := 2) rfl (nI_add _ 1) (by decide) rfl (fun ls hl => ?_)
            refine lv_goto (tgt := 47) hx hb dW_divide_94 (by decide) ?_
            exact ih_47 n (i + 1) (m_sub (m_tw g 0) f) (m_tw h 1) (by omega) (by omega) (by rw [← hg, m_dvL, if_neg c_68]) _ _ (hP.sub [0, 1, 2, 3] rfl) (hD.sub [0, 1, 2, 3] (by decide) rfl) hS ls (lv_sub hl [2, 0] rfl)
  exact lp_47 257 (256 - (Ld - 2)) (Ld - 2) (vp_updL (m_fill g0 8 0) (7 - ((Ld - 2) / 32)) (j_shl 1 (nI ((Ld - 2) % 32)))) (m_fill h0 8 0) (by omega) (by omega) rfl _ _ (hP.sub [0, 1, 2, 3] rfl) (hD.sub [0, 1, 2, 3] (by decide) rfl) hS ls (lv_sub hl [2, 0] rfl)

abbrev rm_c_W_ofBits_new : Room := { frames := 5, cells := 0, slots := 0, locals := 108 }
set_option maxRecDepth 100000 in
set_option maxHeartbeats 4000000 in
theorem c_W_ofBits_new (l : Launch) (D : va_G) (cI cJ cZ : ClassId) (o : Nat) (d : Nat) (r : Nat) (q : Nat) (kn : Int64) (f : Nat → Int64) (g0 : Nat → Int64) (h0 : Nat → Int64) (b : Int64) (Ld : Nat) (hb9 : ¬ b = kn) (hLd : m_dlen (m_set b f) 8 0 = nI Ld) (hL2 : 2 ≤ Ld) (hL6 : Ld ≤ 256) : rw_C l yW_ofBits wW_ofBits rm_c_W_ofBits_new D vwCl (gT cI cJ cZ) [.ref o, .long b] [(o, .inr (1, [.ref d, .ref r, .ref q, .long kn])), (d, .inl (cJ, 8, .inr (.inl f))), (r, .inl (cJ, 8, .inr (.inl g0))), (q, .inl (cJ, 8, .inr (.inl h0)))] (fun v9 w9 => v9 = some (.ref q) ∧ w9 = [(o, .inr (1, [.ref d, .ref r, .ref q, .long b])), (d, .inl (cJ, 8, .inr (.inl (m_set b f)))), (r, .inl (cJ, 8, .inr (.inl ((m_dv (m_set b f) g0 h0 (Ld - 2)).1)))), (q, .inl (cJ, 8, .inr (.inl ((m_dv (m_set b f) g0 h0 (Ld - 2)).2))))]) 0 0 := by
  refine rw_of (cc := cW_ofBits) (maxL := 3) (ret := some (.array .long)) (by decide) rfl (Nat.le_of_ble_eq_true rfl) ?_
  intro p e s m args below meth c Q A ls hx hb hr hml hown hts hlocks hin hK hP hD hA hl hQ
  have hS : va_S A s.heap s.heap [] := va_S.rf
  have hl : lv_has ls 3 [(0, .ref o), (1, .long b)] := hl
  have hown : s.vm.findClass RW = some m.cls := hown
  obtain ⟨H, hHe⟩ : ∃ H : Heap, H = s.heap := ⟨_, rfl⟩
  rw [← hHe] at hP
  have hS : va_S A s.heap H [] := by rw [hHe]; exact va_S.rf
  suffices h9 : W p l e rm_c_W_ofBits_new s m args below meth c H [] 0 0 Q (F0 m 0 ls []) by rw [hHe] at h9; exact h9
  clear hHe
  refine lv_lload_n hx hb dW_ofBits_0 rfl (lv_at hl 1 rfl) ?_
  refine lv_aload_n hx hb dW_ofBits_1 rfl (lv_at hl 0 rfl) ?_
  refine va_get (D := D) (ci := 1) (v := .long kn) (C := RW) (T := TW) (N := 4) hx hb hts iW_ofBits_W hown hK hP 0 rfl rfl 3 (by decide) (hts (.fieldLink RW 23 "TreeDesk$Worth" "known" "J") (by decide +kernel)) (fun _ h9 => h9) rfl dW_ofBits_2 ?_
  refine lc_eq (tgt := 23) hx hb dW_ofBits_5 dW_ofBits_6 (by decide) (fun c_6 => ?_) (fun c_6 => ?_)
  · skip
    exact absurd c_6 hb9
  · skip
    refine lv_aload_n hx hb dW_ofBits_9 rfl (lv_at hl 0 rfl) ?_
    refine lv_lload_n hx hb dW_ofBits_10 rfl (lv_at hl 1 rfl) ?_
    refine rw_k (wc := [(o, .inr (1, [.ref d, .ref r, .ref q, .long kn])), (d, .inl (cJ, 8, .inr (.inl f)))]) (wr := [(r, .inl (cJ, 8, .inr (.inl g0))), (q, .inl (cJ, 8, .inr (.inl h0)))]) (va_runV (As := [.long b]) (rest := []) ⟨hx, hb, hml, hown, hts⟩ (c_W_setDivisor l D cI cJ cZ o d r q kn f b H.size) (cwV 1 hts gW_ofBits_W_setDivisor_27 rfl rfl rfl (by decide +kernel) ⟨Nat.le_of_ble_eq_true rfl, Nat.le_of_ble_eq_true rfl⟩) (rw_preV (hP.sub [0, 1] rfl) hK (hD.sub [0, 1] (by decide) rfl) (va_recv hK hP (ci := 1) (q0 := 0) rfl rfl)) rfl rfl hl.1 rfl (lv_room (Nat.le_of_ble_eq_true rfl)) dW_ofBits_11 ⟨Nat.le_of_ble_eq_true rfl, Nat.le_of_ble_eq_true rfl⟩) hP hD hS hA [0, 1] [2, 3] rfl rfl (by decide) (by decide) (fun v9 w9 H locs hp9 hP hD hS => ?_)
    obtain ⟨rfl, rfl⟩ := hp9
    have hP : va_P D vwCl [(r, .inl (cJ, 8, .inr (.inl g0))), (q, .inl (cJ, 8, .inr (.inl h0))), (o, .inr (1, [.ref d, .ref r, .ref q, .long kn])), (d, .inl (cJ, 8, .inr (.inl (m_set b f))))] H := hP
    have hD : va_D A [(r, .inl (cJ, 8, .inr (.inl g0))), (q, .inl (cJ, 8, .inr (.inl h0))), (o, .inr (1, [.ref d, .ref r, .ref q, .long kn])), (d, .inl (cJ, 8, .inr (.inl (m_set b f))))] := hD
    refine W.eq (g2 := F0 m 14 ls []) rfl ?_
    refine lv_aload_n hx hb dW_ofBits_14 rfl (lv_at hl 0 rfl) ?_
    refine rw_k (wc := [(o, .inr (1, [.ref d, .ref r, .ref q, .long kn])), (d, .inl (cJ, 8, .inr (.inl (m_set b f)))), (r, .inl (cJ, 8, .inr (.inl g0))), (q, .inl (cJ, 8, .inr (.inl h0)))]) (wr := []) (va_runV (As := []) (rest := []) ⟨hx, hb, hml, hown, hts⟩ (c_W_divide l D cI cJ cZ o d r q kn (m_set b f) g0 h0 Ld hLd hL2 hL6 H.size) (cwV 0 hts gW_ofBits_W_divide_31 rfl rfl rfl (by decide +kernel) ⟨Nat.le_of_ble_eq_true rfl, Nat.le_of_ble_eq_true rfl⟩) (rw_preV (hP.sub [2, 3, 0, 1] rfl) hK (hD.sub [2, 3, 0, 1] (by decide) rfl) (va_recv hK hP (ci := 1) (q0 := 2) rfl rfl)) rfl rfl hl.1 rfl (lv_room (Nat.le_of_ble_eq_true rfl)) dW_ofBits_15 ⟨Nat.le_of_ble_eq_true rfl, Nat.le_of_ble_eq_true rfl⟩) hP hD hS hA [2, 3, 0, 1] [] rfl rfl (by decide) (by decide) (fun v9 w9 H locs hp9 hP hD hS => ?_)
    obtain ⟨rfl, rfl⟩ := hp9
    have hP : va_P D vwCl [(o, .inr (1, [.ref d, .ref r, .ref q, .long kn])), (d, .inl (cJ, 8, .inr (.inl (m_set b f)))), (r, .inl (cJ, 8, .inr (.inl ((m_dv (m_set b f) g0 h0 (Ld - 2)).1)))), (q, .inl (cJ, 8, .inr (.inl ((m_dv (m_set b f) g0 h0 (Ld - 2)).2))))] H := hP
    have hD : va_D A [(o, .inr (1, [.ref d, .ref r, .ref q, .long kn])), (d, .inl (cJ, 8, .inr (.inl (m_set b f)))), (r, .inl (cJ, 8, .inr (.inl ((m_dv (m_set b f) g0 h0 (Ld - 2)).1)))), (q, .inl (cJ, 8, .inr (.inl ((m_dv (m_set b f) g0 h0 (Ld - 2)).2))))] := hD
    refine W.eq (g2 := F0 m 18 ls []) rfl ?_
    refine lv_aload_n hx hb dW_ofBits_18 rfl (lv_at hl 0 rfl) ?_
    refine lv_lload_n hx hb dW_ofBits_19 rfl (lv_at hl 1 rfl) ?_
    refine va_put (D := D) (ci := 1) (v := .long b) (ty := .long) (C := RW) (T := TW) (N := 4) hx hb hts iW_ofBits_W tyW tyW_ok nmW hown hK hP hD hS 0 rfl rfl 3 (by decide) (hts (.fieldLink RW 23 "TreeDesk$Worth" "known" "J") (by decide +kernel)) (fun _ h9 => h9) rfl (by decide +kernel) rfl rfl (Nat.le_of_ble_eq_true rfl) dW_ofBits_20 (fun H locs hP hD hS => ?_)
    have hP : va_P D vwCl [(o, .inr (1, [.ref d, .ref r, .ref q, .long b])), (d, .inl (cJ, 8, .inr (.inl (m_set b f)))), (r, .inl (cJ, 8, .inr (.inl ((m_dv (m_set b f) g0 h0 (Ld - 2)).1)))), (q, .inl (cJ, 8, .inr (.inl ((m_dv (m_set b f) g0 h0 (Ld - 2)).2))))] H := hP
    have hD : va_D A [(o, .inr (1, [.ref d, .ref r, .ref q, .long b])), (d, .inl (cJ, 8, .inr (.inl (m_set b f)))), (r, .inl (cJ, 8, .inr (.inl ((m_dv (m_set b f) g0 h0 (Ld - 2)).1)))), (q, .inl (cJ, 8, .inr (.inl ((m_dv (m_set b f) g0 h0 (Ld - 2)).2))))] := hD
    refine lv_aload_n hx hb dW_ofBits_23 rfl (lv_at hl 0 rfl) ?_
    refine va_get (D := D) (ci := 1) (v := .ref q) (C := RW) (T := TW) (N := 4) hx hb hts iW_ofBits_W hown hK hP 0 rfl rfl 2 (by decide) (hts (.fieldLink RW 18 "TreeDesk$Worth" "quotient" "[J") (by decide +kernel)) (fun _ h9 => h9) rfl dW_ofBits_24 ?_
    exact rw_aret (w := [(o, .inr (1, [.ref d, .ref r, .ref q, .long b])), (d, .inl (cJ, 8, .inr (.inl (m_set b f)))), (r, .inl (cJ, 8, .inr (.inl ((m_dv (m_set b f) g0 h0 (Ld - 2)).1)))), (q, .inl (cJ, 8, .inr (.inl ((m_dv (m_set b f) g0 h0 (Ld - 2)).2))))]) hQ hx hb hr (Or.inr ⟨_, rfl⟩) hlocks dW_ofBits_27 (hP.sub [0, 1, 2, 3] rfl) (hD.sub [0, 1, 2, 3] (by decide) rfl) hS ⟨rfl, rfl⟩

abbrev rm_c_W_ofBits_old : Room := { frames := 5, cells := 0, slots := 0, locals := 108 }
set_option maxRecDepth 100000 in
set_option maxHeartbeats 4000000 in
theorem c_W_ofBits_old (l : Launch) (D : va_G) (cI cJ cZ : ClassId) (o : Nat) (d : Nat) (r : Nat) (q : Nat) (kn : Int64) (f : Nat → Int64) (g0 : Nat → Int64) (h0 : Nat → Int64)  : rw_C l yW_ofBits wW_ofBits rm_c_W_ofBits_old D vwCl (gT cI cJ cZ) [.ref o, .long kn] [(o, .inr (1, [.ref d, .ref r, .ref q, .long kn])), (d, .inl (cJ, 8, .inr (.inl f))), (r, .inl (cJ, 8, .inr (.inl g0))), (q, .inl (cJ, 8, .inr (.inl h0)))] (fun v9 w9 => v9 = some (.ref q) ∧ w9 = [(o, .inr (1, [.ref d, .ref r, .ref q, .long kn])), (d, .inl (cJ, 8, .inr (.inl f))), (r, .inl (cJ, 8, .inr (.inl g0))), (q, .inl (cJ, 8, .inr (.inl h0)))]) 0 0 := by
  refine rw_of (cc := cW_ofBits) (maxL := 3) (ret := some (.array .long)) (by decide) rfl (Nat.le_of_ble_eq_true rfl) ?_
  intro p e s m args below meth c Q A ls hx hb hr hml hown hts hlocks hin hK hP hD hA hl hQ
  have hS : va_S A s.heap s.heap [] := va_S.rf
  have hl : lv_has ls 3 [(0, .ref o), (1, .long kn)] := hl
  have hown : s.vm.findClass RW = some m.cls := hown
  obtain ⟨H, hHe⟩ : ∃ H : Heap, H = s.heap := ⟨_, rfl⟩
  rw [← hHe] at hP
  have hS : va_S A s.heap H [] := by rw [hHe]; exact va_S.rf
  suffices h9 : W p l e rm_c_W_ofBits_old s m args below meth c H [] 0 0 Q (F0 m 0 ls []) by rw [hHe] at h9; exact h9
  clear hHe
  refine lv_lload_n hx hb dW_ofBits_0 rfl (lv_at hl 1 rfl) ?_
  refine lv_aload_n hx hb dW_ofBits_1 rfl (lv_at hl 0 rfl) ?_
  refine va_get (D := D) (ci := 1) (v := .long kn) (C := RW) (T := TW) (N := 4) hx hb hts iW_ofBits_W hown hK hP 0 rfl rfl 3 (by decide) (hts (.fieldLink RW 23 "TreeDesk$Worth" "known" "J") (by decide +kernel)) (fun _ h9 => h9) rfl dW_ofBits_2 ?_
  refine lc_eq (tgt := 23) hx hb dW_ofBits_5 dW_ofBits_6 (by decide) (fun c_6 => ?_) (fun c_6 => ?_)
  · skip
    refine lv_aload_n hx hb dW_ofBits_23 rfl (lv_at hl 0 rfl) ?_
    refine va_get (D := D) (ci := 1) (v := .ref q) (C := RW) (T := TW) (N := 4) hx hb hts iW_ofBits_W hown hK hP 0 rfl rfl 2 (by decide) (hts (.fieldLink RW 18 "TreeDesk$Worth" "quotient" "[J") (by decide +kernel)) (fun _ h9 => h9) rfl dW_ofBits_24 ?_
    exact rw_aret (w := [(o, .inr (1, [.ref d, .ref r, .ref q, .long kn])), (d, .inl (cJ, 8, .inr (.inl f))), (r, .inl (cJ, 8, .inr (.inl g0))), (q, .inl (cJ, 8, .inr (.inl h0)))]) hQ hx hb hr (Or.inr ⟨_, rfl⟩) hlocks dW_ofBits_27 (hP.sub [0, 1, 2, 3] rfl) (hD.sub [0, 1, 2, 3] (by decide) rfl) hS ⟨rfl, rfl⟩
  · skip
    exact absurd rfl c_6
