abbrev rm_c_isBlock_ok : Room := { frames := 0, cells := 0, slots := 0, locals := 0 }
set_option maxRecDepth 100000 in
set_option maxHeartbeats 4000000 in
theorem c_isBlock_ok (l : Launch) (D : va_G) (cI cJ cZ : ClassId) (o : Nat) (rm : Nat) (n : Nat) (bs : Nat) (aP : Nat) (aH : Nat) (aC : Nat) (aT : Nat) (aB : Nat) (aZ : Nat) (aW : Nat) (aR : Nat) (oR : Nat) (oW : Nat) (j : Nat) (hn9 : n ≤ 300) (hj : j < n) : ro_C l yT_isBlock wT_isBlock rm_c_isBlock_ok D vwCl (gT cI cJ cZ) [.ref o, .int (nI j)] [(o, .inr (2, [.int (nI rm), .int (nI n), .int (nI bs), .ref aP, .ref aH, .ref aC, .ref aT, .ref aB, .ref aZ, .ref aW, .ref aR, .ref oR, .ref oW]))] (some (.int (nI 1))) := by
  refine ro_of (cc := cT_isBlock) (maxL := 2) (ret := some .boolean) (by decide) rfl (Nat.le_of_ble_eq_true rfl) ?_
  intro p e s m args below meth c Q ls hx hb hr hml hown hts hlocks hK hP hl hQ
  have hl : lv_has ls 2 [(0, .ref o), (1, .int (nI j))] := hl
  have hown : s.vm.findClass RT = some m.cls := hown
  refine lv_iload_n hx hb dT_isBlock_0 rfl (lv_at hl 1 rfl) ?_
  refine lv_if_lt (tgt := 16) hx hb dT_isBlock_1 (by decide) (fun c_1 => ?_) (fun c_1 => ?_)
  · skip
    rw [← nI_0] at c_1
    have c_1 : j < 0 := n_lt c_1 (by omega) (by omega)
    omega
  · skip
    rw [← nI_0] at c_1
    have c_1 : 0 ≤ j := n_nlt c_1 (by omega) (by omega)
    refine lv_iload_n hx hb dT_isBlock_4 rfl (lv_at hl 1 rfl) ?_
    refine lv_aload_n hx hb dT_isBlock_5 rfl (lv_at hl 0 rfl) ?_
    refine va_get (D := D) (ci := 2) (v := .int (nI n)) (C := RT) (T := TT) (N := 13) hx hb hts iT_isBlock_T hown hK hP 0 rfl rfl 1 (by decide) (hts (.fieldLink RT 70 "TreeDesk" "count" "I") (by decide +kernel)) (fun _ h9 => h9) rfl dT_isBlock_6 ?_
    refine lv_icmp_ge (tgt := 16) hx hb dT_isBlock_9 (by decide) (fun c_9 => ?_) (fun c_9 => ?_)
    · skip
      have c_9 : n ≤ j := n_le c_9 (by omega) (by omega)
      omega
    · skip
      have c_9 : j < n := n_nle c_9 (by omega) (by omega)
      refine lv_iconst (v := nI 1) hx hb dT_isBlock_12 (by decide) ?_
      refine lv_goto (tgt := 17) hx hb dT_isBlock_13 (by decide) ?_
      exact ro_zret hQ hx hb hr hlocks dT_isBlock_17 rfl rfl

abbrev rm_c_isBlock_no : Room := { frames := 0, cells := 0, slots := 0, locals := 0 }
set_option maxRecDepth 100000 in
set_option maxHeartbeats 4000000 in
theorem c_isBlock_no (l : Launch) (D : va_G) (cI cJ cZ : ClassId) (o : Nat) (rm : Nat) (n : Nat) (bs : Nat) (aP : Nat) (aH : Nat) (aC : Nat) (aT : Nat) (aB : Nat) (aZ : Nat) (aW : Nat) (aR : Nat) (oR : Nat) (oW : Nat) (x : Int32) (hx9 : ¬ (0 ≤ x ∧ x < nI n)) : ro_C l yT_isBlock wT_isBlock rm_c_isBlock_no D vwCl (gT cI cJ cZ) [.ref o, .int x] [(o, .inr (2, [.int (nI rm), .int (nI n), .int (nI bs), .ref aP, .ref aH, .ref aC, .ref aT, .ref aB, .ref aZ, .ref aW, .ref aR, .ref oR, .ref oW]))] (some (.int (nI 0))) := by
  refine ro_of (cc := cT_isBlock) (maxL := 2) (ret := some .boolean) (by decide) rfl (Nat.le_of_ble_eq_true rfl) ?_
  intro p e s m args below meth c Q ls hx hb hr hml hown hts hlocks hK hP hl hQ
  have hl : lv_has ls 2 [(0, .ref o), (1, .int x)] := hl
  have hown : s.vm.findClass RT = some m.cls := hown
  refine lv_iload_n hx hb dT_isBlock_0 rfl (lv_at hl 1 rfl) ?_
  refine lv_if_lt (tgt := 16) hx hb dT_isBlock_1 (by decide) (fun c_1 => ?_) (fun c_1 => ?_)
  · skip
    refine lv_iconst (v := nI 0) hx hb dT_isBlock_16 (by decide) ?_
    exact ro_zret hQ hx hb hr hlocks dT_isBlock_17 rfl rfl
  · skip
    refine lv_iload_n hx hb dT_isBlock_4 rfl (lv_at hl 1 rfl) ?_
    refine lv_aload_n hx hb dT_isBlock_5 rfl (lv_at hl 0 rfl) ?_
    refine va_get (D := D) (ci := 2) (v := .int (nI n)) (C := RT) (T := TT) (N := 13) hx hb hts iT_isBlock_T hown hK hP 0 rfl rfl 1 (by decide) (hts (.fieldLink RT 70 "TreeDesk" "count" "I") (by decide +kernel)) (fun _ h9 => h9) rfl dT_isBlock_6 ?_
    refine lv_icmp_ge (tgt := 16) hx hb dT_isBlock_9 (by decide) (fun c_9 => ?_) (fun c_9 => ?_)
    · skip
      refine lv_iconst (v := nI 0) hx hb dT_isBlock_16 (by decide) ?_
      exact ro_zret hQ hx hb hr hlocks dT_isBlock_17 rfl rfl
    · skip
      exact absurd ⟨Int32.not_lt.mp c_1, Int32.not_le.mp c_9⟩ hx9

abbrev rm_c_tip : Room := { frames := 0, cells := 0, slots := 0, locals := 0 }
set_option maxRecDepth 100000 in
set_option maxHeartbeats 4000000 in
theorem c_tip (l : Launch) (D : va_G) (cI cJ cZ : ClassId) (o : Nat) (rm : Nat) (n : Nat) (bs : Nat) (aP : Nat) (aH : Nat) (aC : Nat) (aT : Nat) (aB : Nat) (aZ : Nat) (aW : Nat) (aR : Nat) (oR : Nat) (oW : Nat)  : ro_C l yT_tip wT_tip rm_c_tip D vwCl (gT cI cJ cZ) [.ref o] [(o, .inr (2, [.int (nI rm), .int (nI n), .int (nI bs), .ref aP, .ref aH, .ref aC, .ref aT, .ref aB, .ref aZ, .ref aW, .ref aR, .ref oR, .ref oW]))] (some (.int (nI bs))) := by
  refine ro_of (cc := cT_tip) (maxL := 1) (ret := some .int) (by decide) rfl (Nat.le_of_ble_eq_true rfl) ?_
  intro p e s m args below meth c Q ls hx hb hr hml hown hts hlocks hK hP hl hQ
  have hl : lv_has ls 1 [(0, .ref o)] := hl
  have hown : s.vm.findClass RT = some m.cls := hown
  refine lv_aload_n hx hb dT_tip_0 rfl (lv_at hl 0 rfl) ?_
  refine va_get (D := D) (ci := 2) (v := .int (nI bs)) (C := RT) (T := TT) (N := 13) hx hb hts iT_tip_T hown hK hP 0 rfl rfl 2 (by decide) (hts (.fieldLink RT 73 "TreeDesk" "best" "I") (by decide +kernel)) (fun _ h9 => h9) rfl dT_tip_1 ?_
  exact ro_iret hQ hx hb hr hlocks dT_tip_4 rfl

abbrev rm_c_size : Room := { frames := 0, cells := 0, slots := 0, locals := 0 }
set_option maxRecDepth 100000 in
set_option maxHeartbeats 4000000 in
theorem c_size (l : Launch) (D : va_G) (cI cJ cZ : ClassId) (o : Nat) (rm : Nat) (n : Nat) (bs : Nat) (aP : Nat) (aH : Nat) (aC : Nat) (aT : Nat) (aB : Nat) (aZ : Nat) (aW : Nat) (aR : Nat) (oR : Nat) (oW : Nat)  : ro_C l yT_size wT_size rm_c_size D vwCl (gT cI cJ cZ) [.ref o] [(o, .inr (2, [.int (nI rm), .int (nI n), .int (nI bs), .ref aP, .ref aH, .ref aC, .ref aT, .ref aB, .ref aZ, .ref aW, .ref aR, .ref oR, .ref oW]))] (some (.int (nI n))) := by
  refine ro_of (cc := cT_size) (maxL := 1) (ret := some .int) (by decide) rfl (Nat.le_of_ble_eq_true rfl) ?_
  intro p e s m args below meth c Q ls hx hb hr hml hown hts hlocks hK hP hl hQ
  have hl : lv_has ls 1 [(0, .ref o)] := hl
  have hown : s.vm.findClass RT = some m.cls := hown
  refine lv_aload_n hx hb dT_size_0 rfl (lv_at hl 0 rfl) ?_
  refine va_get (D := D) (ci := 2) (v := .int (nI n)) (C := RT) (T := TT) (N := 13) hx hb hts iT_size_T hown hK hP 0 rfl rfl 1 (by decide) (hts (.fieldLink RT 70 "TreeDesk" "count" "I") (by decide +kernel)) (fun _ h9 => h9) rfl dT_size_1 ?_
  exact ro_iret hQ hx hb hr hlocks dT_size_4 rfl

abbrev rm_c_compareWorks : Room := { frames := 0, cells := 0, slots := 0, locals := 0 }
set_option maxRecDepth 100000 in
set_option maxHeartbeats 4000000 in
theorem c_compareWorks (l : Launch) (D : va_G) (cI cJ cZ : ClassId) (o : Nat) (rm : Nat) (n : Nat) (bs : Nat) (aP : Nat) (aH : Nat) (aC : Nat) (aT : Nat) (aB : Nat) (aZ : Nat) (aW : Nat) (aR : Nat) (oR : Nat) (oW : Nat) (Wk : Nat → Int64) (x : Nat) (y : Nat) (hr3 : rm ≤ 300) (hx9 : x < rm) (hy9 : y < rm) : ro_C l yT_compareWorks wT_compareWorks rm_c_compareWorks D vwCl (gT cI cJ cZ) [.ref o, .int (nI x), .int (nI y)] [(o, .inr (2, [.int (nI rm), .int (nI n), .int (nI bs), .ref aP, .ref aH, .ref aC, .ref aT, .ref aB, .ref aZ, .ref aW, .ref aR, .ref oR, .ref oW])), (aW, .inl (cJ, rm * 8, .inr (.inl Wk)))] (some (.int (m_cmp Wk x y 8 0))) := by
  refine ro_of (cc := cT_compareWorks) (maxL := 8) (ret := some .int) (by decide) rfl (Nat.le_of_ble_eq_true rfl) ?_
  intro p e s m args below meth c Q ls hx hb hr hml hown hts hlocks hK hP hl hQ
  have hl : lv_has ls 8 [(0, .ref o), (1, .int (nI x)), (2, .int (nI y))] := hl
  have hown : s.vm.findClass RT = some m.cls := hown
  refine lv_iconst (v := nI 0) hx hb dT_compareWorks_0 (by decide) ?_
  refine lv_istore_n (lv' := [(3, .int (nI 0)), (0, .ref o), (1, .int (nI x)), (2, .int (nI y))]) hx hb dT_compareWorks_1 rfl hl (by decide) rfl (fun ls hl => ?_)
  have lp_2 : ∀ (n_2 : Nat) (d i : Nat), (d < n_2) → (i + d = 8) → (m_cmp Wk x y d i = m_cmp Wk x y 8 0) → ∀ (ls : Array Slot), lv_has ls 8 [(0, .ref o), (1, .int (nI x)), (2, .int (nI y)), (3, .int (nI i))] → W p l e rm_c_compareWorks s m args below meth c s.heap [] 0 0 Q (F0 m 2 ls []) := by
    intro n_2
    induction n_2 with
    | zero => intro d i hn hd hg ls hl; exact absurd hn (by omega)
    | succ n_2 ih_2 =>
      intro d i hn hd hg ls hl
      refine lv_iload_n hx hb dT_compareWorks_2 rfl (lv_at hl 3 rfl) ?_
      refine lv_bipush (v := nI 8) hx hb dT_compareWorks_3 (by decide) ?_
      refine lv_icmp_ge (tgt := 62) hx hb dT_compareWorks_5 (by decide) (fun c_5 => ?_) (fun c_5 => ?_)
      · skip
        have c_5 : 8 ≤ i := n_le c_5 (by omega) (by omega)
        have hd0 : d = 0 := by omega
        subst hd0
        refine lv_iconst (v := nI 0) hx hb dT_compareWorks_62 (by decide) ?_
        exact ro_iret hQ hx hb hr hlocks dT_compareWorks_63 (by rw [← hg]; rfl)
      · skip
        have c_5 : i < 8 := n_nle c_5 (by omega) (by omega)
        obtain ⟨d, rfl⟩ : ∃ d' : Nat, d = d' + 1 := ⟨d - 1, by omega⟩
        refine lv_aload_n hx hb dT_compareWorks_8 rfl (lv_at hl 0 rfl) ?_
        refine va_get (D := D) (ci := 2) (v := .ref aW) (C := RT) (T := TT) (N := 13) hx hb hts iT_compareWorks_T hown hK hP 0 rfl rfl 9 (by decide) (hts (.fieldLink RT 36 "TreeDesk" "works" "[J") (by decide +kernel)) (fun _ h9 => h9) rfl dT_compareWorks_9 ?_
        refine lv_iload_n hx hb dT_compareWorks_12 rfl (lv_at hl 1 rfl) ?_
        refine lv_bipush (v := nI 8) hx hb dT_compareWorks_13 (by decide) ?_
        refine lv_imul hx hb dT_compareWorks_15 ?_
        refine tp_i (y := nI (x * 8)) (pk_mul _ _) ?_
        refine lv_iload_n hx hb dT_compareWorks_16 rfl (lv_at hl 3 rfl) ?_
        refine lv_iadd hx hb dT_compareWorks_17 ?_
        refine tp_i (y := nI ((x * 8) + i)) (nI_add _ _) ?_
        refine ar_lld (j := (x * 8) + i) hx hb hK hP 1 1 rfl rfl dT_compareWorks_18 (by omega) (by omega) ?_
        refine lv_lstore (lv' := [(4, .long (Wk ((x * 8) + i))), (0, .ref o), (1, .int (nI x)), (2, .int (nI y)), (3, .int (nI i))]) hx hb dT_compareWorks_19 hl (by decide) rfl (fun ls hl => ?_)
        refine lv_aload_n hx hb dT_compareWorks_21 rfl (lv_at hl 1 rfl) ?_
        refine va_get (D := D) (ci := 2) (v := .ref aW) (C := RT) (T := TT) (N := 13) hx hb hts iT_compareWorks_T hown hK hP 0 rfl rfl 9 (by decide) (hts (.fieldLink RT 36 "TreeDesk" "works" "[J") (by decide +kernel)) (fun _ h9 => h9) rfl dT_compareWorks_22 ?_
        refine lv_iload_n hx hb dT_compareWorks_25 rfl (lv_at hl 3 rfl) ?_
        refine lv_bipush (v := nI 8) hx hb dT_compareWorks_26 (by decide) ?_
        refine lv_imul hx hb dT_compareWorks_28 ?_
        refine tp_i (y := nI (y * 8)) (pk_mul _ _) ?_
        refine lv_iload_n hx hb dT_compareWorks_29 rfl (lv_at hl 4 rfl) ?_
        refine lv_iadd hx hb dT_compareWorks_30 ?_
        refine tp_i (y := nI ((y * 8) + i)) (nI_add _ _) ?_
        refine ar_lld (j := (y * 8) + i) hx hb hK hP 1 1 rfl rfl dT_compareWorks_31 (by omega) (by omega) ?_
        refine lv_lstore (lv' := [(6, .long (Wk ((y * 8) + i))), (4, .long (Wk ((x * 8) + i))), (0, .ref o), (1, .int (nI x)), (2, .int (nI y)), (3, .int (nI i))]) hx hb dT_compareWorks_32 hl (by decide) rfl (fun ls hl => ?_)
        refine lv_lload hx hb dT_compareWorks_34 (lv_at hl 1 rfl) ?_
        refine lv_lload hx hb dT_compareWorks_36 (lv_at hl 0 rfl) ?_
        refine lc_eq (tgt := 56) hx hb dT_compareWorks_38 dT_compareWorks_39 (by decide) (fun c_39 => ?_) (fun c_39 => ?_)
        · skip
          refine lv_iinc (v := nI (i + 1)) (lv' := [(3, .int (nI (i + 1))), (6, .long (Wk ((y * 8) + i))), (4, .long (Wk ((x * 8) + i))), (0, .ref o), (1, .int (nI x)), (2, .int (nI y))]) hx hb dT_compareWorks_56 hl (k := 5) rfl (nI_add _ 1) (by decide) rfl (fun ls hl => ?_)
          refine lv_goto (tgt := 2) hx hb dT_compareWorks_59 (by decide) ?_
          exact ih_2 d (i + 1) (by omega) (by omega) (by rw [← hg, m_cmp, if_pos c_39]) ls (lv_sub hl [3, 4, 5, 0] rfl)
        · skip
          refine lv_lload hx hb dT_compareWorks_42 (lv_at hl 1 rfl) ?_
          refine lv_lload hx hb dT_compareWorks_44 (lv_at hl 0 rfl) ?_
          refine lc_ge (tgt := 54) hx hb dT_compareWorks_46 dT_compareWorks_47 (by decide) (fun c_47 => ?_) (fun c_47 => ?_)
          · skip
            refine lv_iconst (v := nI 1) hx hb dT_compareWorks_54 (by decide) ?_
            exact ro_iret hQ hx hb hr hlocks dT_compareWorks_55 (by rw [← hg, m_cmp, if_neg c_39, if_pos c_47])
          · skip
            refine lv_iconst (v := (-1)) hx hb dT_compareWorks_50 (by decide) ?_
            refine lv_goto (tgt := 55) hx hb dT_compareWorks_51 (by decide) ?_
            exact ro_iret hQ hx hb hr hlocks dT_compareWorks_55 (by rw [← hg, m_cmp, if_neg c_39, if_neg c_47])
  exact lp_2 9 8 0 (by omega) (by omega) rfl ls (lv_sub hl [1, 2, 3, 0] rfl)

abbrev rm_c_compare_ok : Room := { frames := 1, cells := 0, slots := 0, locals := 27 }
set_option maxRecDepth 100000 in
set_option maxHeartbeats 4000000 in
theorem c_compare_ok (l : Launch) (D : va_G) (cI cJ cZ : ClassId) (o : Nat) (rm : Nat) (n : Nat) (bs : Nat) (aP : Nat) (aH : Nat) (aC : Nat) (aT : Nat) (aB : Nat) (aZ : Nat) (aW : Nat) (aR : Nat) (oR : Nat) (oW : Nat) (Wk : Nat → Int64) (x : Nat) (y : Nat) (hn3 : n ≤ rm) (hr3 : rm ≤ 300) (hx9 : x < n) (hy9 : y < n) : ro_C l yT_compare wT_compare rm_c_compare_ok D vwCl (gT cI cJ cZ) [.ref o, .int (nI x), .int (nI y)] [(o, .inr (2, [.int (nI rm), .int (nI n), .int (nI bs), .ref aP, .ref aH, .ref aC, .ref aT, .ref aB, .ref aZ, .ref aW, .ref aR, .ref oR, .ref oW])), (aW, .inl (cJ, rm * 8, .inr (.inl Wk)))] (some (.int (m_cmp Wk x y 8 0))) := by
  refine ro_of (cc := cT_compare) (maxL := 3) (ret := some .int) (by decide) rfl (Nat.le_of_ble_eq_true rfl) ?_
  intro p e s m args below meth c Q ls hx hb hr hml hown hts hlocks hK hP hl hQ
  have hl : lv_has ls 3 [(0, .ref o), (1, .int (nI x)), (2, .int (nI y))] := hl
  have hown : s.vm.findClass RT = some m.cls := hown
  refine lv_aload_n hx hb dT_compare_0 rfl (lv_at hl 0 rfl) ?_
  refine lv_iload_n hx hb dT_compare_1 rfl (lv_at hl 1 rfl) ?_
  refine ro_ki (va_runV (As := [.int (nI x)]) (rest := []) ⟨hx, hb, hml, hown, hts⟩ (c_isBlock_ok l D cI cJ cZ o rm n bs aP aH aC aT aB aZ aW aR oR oW x (by omega) (by omega)) (cwV 1 hts gT_compare_T_isBlock_76 rfl rfl rfl (by decide +kernel) ⟨Nat.le_of_ble_eq_true rfl, Nat.le_of_ble_eq_true rfl⟩) (ro_preV (hP.sub [0] rfl) hK (va_recv hK hP (ci := 2) (q0 := 0) rfl rfl)) rfl rfl hl.1 rfl (lv_room (Nat.le_of_ble_eq_true rfl)) dT_compare_2 ⟨Nat.le_of_ble_eq_true rfl, Nat.le_of_ble_eq_true rfl⟩) ?_
  refine lv_if_eq (tgt := 16) hx hb dT_compare_5 (by decide) (fun c_5 => ?_) (fun c_5 => ?_)
  · skip
    rw [← nI_0] at c_5
    have c_5 : 1 = 0 := n_eq c_5 (by omega) (by omega)
    omega
  · skip
    rw [← nI_0] at c_5
    have c_5 : ¬ 1 = 0 := n_ne c_5
    refine lv_aload_n hx hb dT_compare_8 rfl (lv_at hl 0 rfl) ?_
    refine lv_iload_n hx hb dT_compare_9 rfl (lv_at hl 2 rfl) ?_
    refine ro_ki (va_runV (As := [.int (nI y)]) (rest := []) ⟨hx, hb, hml, hown, hts⟩ (c_isBlock_ok l D cI cJ cZ o rm n bs aP aH aC aT aB aZ aW aR oR oW y (by omega) (by omega)) (cwV 1 hts gT_compare_T_isBlock_76 rfl rfl rfl (by decide +kernel) ⟨Nat.le_of_ble_eq_true rfl, Nat.le_of_ble_eq_true rfl⟩) (ro_preV (hP.sub [0] rfl) hK (va_recv hK hP (ci := 2) (q0 := 0) rfl rfl)) rfl rfl hl.1 rfl (lv_room (Nat.le_of_ble_eq_true rfl)) dT_compare_10 ⟨Nat.le_of_ble_eq_true rfl, Nat.le_of_ble_eq_true rfl⟩) ?_
    refine lv_if_ne (tgt := 19) hx hb dT_compare_13 (by decide) (fun c_13 => ?_) (fun c_13 => ?_)
    · skip
      rw [← nI_0] at c_13
      have c_13 : ¬ 1 = 0 := n_ne c_13
      refine lv_aload_n hx hb dT_compare_19 rfl (lv_at hl 0 rfl) ?_
      refine lv_iload_n hx hb dT_compare_20 rfl (lv_at hl 1 rfl) ?_
      refine lv_iload_n hx hb dT_compare_21 rfl (lv_at hl 2 rfl) ?_
      refine ro_ki (va_runV (As := [.int (nI x), .int (nI y)]) (rest := []) ⟨hx, hb, hml, hown, hts⟩ (c_compareWorks l D cI cJ cZ o rm n bs aP aH aC aT aB aZ aW aR oR oW Wk x y (by omega) (by omega) (by omega)) (cwV 2 hts gT_compare_T_compareWorks_116 rfl rfl rfl (by decide +kernel) ⟨Nat.le_of_ble_eq_true rfl, Nat.le_of_ble_eq_true rfl⟩) (ro_preV (hP.sub [0, 1] rfl) hK (va_recv hK hP (ci := 2) (q0 := 0) rfl rfl)) rfl rfl hl.1 rfl (lv_room (Nat.le_of_ble_eq_true rfl)) dT_compare_22 ⟨Nat.le_of_ble_eq_true rfl, Nat.le_of_ble_eq_true rfl⟩) ?_
      exact ro_iret hQ hx hb hr hlocks dT_compare_25 rfl
    · skip
      rw [← nI_0] at c_13
      have c_13 : 1 = 0 := n_eq c_13 (by omega) (by omega)
      omega

abbrev rm_c_compare_noa : Room := { frames := 1, cells := 0, slots := 0, locals := 27 }
set_option maxRecDepth 100000 in
set_option maxHeartbeats 4000000 in
theorem c_compare_noa (l : Launch) (D : va_G) (cI cJ cZ : ClassId) (o : Nat) (rm : Nat) (n : Nat) (bs : Nat) (aP : Nat) (aH : Nat) (aC : Nat) (aT : Nat) (aB : Nat) (aZ : Nat) (aW : Nat) (aR : Nat) (oR : Nat) (oW : Nat) (x : Int32) (y : Int32) (hx9 : ¬ (0 ≤ x ∧ x < nI n)) : ro_C l yT_compare wT_compare rm_c_compare_noa D vwCl (gT cI cJ cZ) [.ref o, .int x, .int y] [(o, .inr (2, [.int (nI rm), .int (nI n), .int (nI bs), .ref aP, .ref aH, .ref aC, .ref aT, .ref aB, .ref aZ, .ref aW, .ref aR, .ref oR, .ref oW]))] (some (.int (-2))) := by
  refine ro_of (cc := cT_compare) (maxL := 3) (ret := some .int) (by decide) rfl (Nat.le_of_ble_eq_true rfl) ?_
  intro p e s m args below meth c Q ls hx hb hr hml hown hts hlocks hK hP hl hQ
  have hl : lv_has ls 3 [(0, .ref o), (1, .int x), (2, .int y)] := hl
  have hown : s.vm.findClass RT = some m.cls := hown
  refine lv_aload_n hx hb dT_compare_0 rfl (lv_at hl 0 rfl) ?_
  refine lv_iload_n hx hb dT_compare_1 rfl (lv_at hl 1 rfl) ?_
  refine ro_ki (va_runV (As := [.int x]) (rest := []) ⟨hx, hb, hml, hown, hts⟩ (c_isBlock_no l D cI cJ cZ o rm n bs aP aH aC aT aB aZ aW aR oR oW x hx9) (cwV 1 hts gT_compare_T_isBlock_76 rfl rfl rfl (by decide +kernel) ⟨Nat.le_of_ble_eq_true rfl, Nat.le_of_ble_eq_true rfl⟩) (ro_preV (hP.sub [0] rfl) hK (va_recv hK hP (ci := 2) (q0 := 0) rfl rfl)) rfl rfl hl.1 rfl (lv_room (Nat.le_of_ble_eq_true rfl)) dT_compare_2 ⟨Nat.le_of_ble_eq_true rfl, Nat.le_of_ble_eq_true rfl⟩) ?_
  refine lv_if_eq (tgt := 16) hx hb dT_compare_5 (by decide) (fun c_5 => ?_) (fun c_5 => ?_)
  · skip
    rw [← nI_0] at c_5
    have c_5 : 0 = 0 := n_eq c_5 (by omega) (by omega)
    refine lv_bipush (v := (-2)) hx hb dT_compare_16 (by decide) ?_
    exact ro_iret hQ hx hb hr hlocks dT_compare_18 rfl
  · skip
    rw [← nI_0] at c_5
    have c_5 : ¬ 0 = 0 := n_ne c_5
    omega

abbrev rm_c_compare_nob : Room := { frames := 1, cells := 0, slots := 0, locals := 27 }
set_option maxRecDepth 100000 in
set_option maxHeartbeats 4000000 in
theorem c_compare_nob (l : Launch) (D : va_G) (cI cJ cZ : ClassId) (o : Nat) (rm : Nat) (n : Nat) (bs : Nat) (aP : Nat) (aH : Nat) (aC : Nat) (aT : Nat) (aB : Nat) (aZ : Nat) (aW : Nat) (aR : Nat) (oR : Nat) (oW : Nat) (x : Nat) (y : Int32) (hn9 : n ≤ 300) (hx8 : x < n) (hx9 : ¬ (0 ≤ y ∧ y < nI n)) : ro_C l yT_compare wT_compare rm_c_compare_nob D vwCl (gT cI cJ cZ) [.ref o, .int (nI x), .int y] [(o, .inr (2, [.int (nI rm), .int (nI n), .int (nI bs), .ref aP, .ref aH, .ref aC, .ref aT, .ref aB, .ref aZ, .ref aW, .ref aR, .ref oR, .ref oW]))] (some (.int (-2))) := by
  refine ro_of (cc := cT_compare) (maxL := 3) (ret := some .int) (by decide) rfl (Nat.le_of_ble_eq_true rfl) ?_
  intro p e s m args below meth c Q ls hx hb hr hml hown hts hlocks hK hP hl hQ
  have hl : lv_has ls 3 [(0, .ref o), (1, .int (nI x)), (2, .int y)] := hl
  have hown : s.vm.findClass RT = some m.cls := hown
  refine lv_aload_n hx hb dT_compare_0 rfl (lv_at hl 0 rfl) ?_
  refine lv_iload_n hx hb dT_compare_1 rfl (lv_at hl 1 rfl) ?_
  refine ro_ki (va_runV (As := [.int (nI x)]) (rest := []) ⟨hx, hb, hml, hown, hts⟩ (c_isBlock_ok l D cI cJ cZ o rm n bs aP aH aC aT aB aZ aW aR oR oW x (by omega) (by omega)) (cwV 1 hts gT_compare_T_isBlock_76 rfl rfl rfl (by decide +kernel) ⟨Nat.le_of_ble_eq_true rfl, Nat.le_of_ble_eq_true rfl⟩) (ro_preV (hP.sub [0] rfl) hK (va_recv hK hP (ci := 2) (q0 := 0) rfl rfl)) rfl rfl hl.1 rfl (lv_room (Nat.le_of_ble_eq_true rfl)) dT_compare_2 ⟨Nat.le_of_ble_eq_true rfl, Nat.le_of_ble_eq_true rfl⟩) ?_
  refine lv_if_eq (tgt := 16) hx hb dT_compare_5 (by decide) (fun c_5 => ?_) (fun c_5 => ?_)
  · skip
    rw [← nI_0] at c_5
    have c_5 : 1 = 0 := n_eq c_5 (by omega) (by omega)
    omega
  · skip
    rw [← nI_0] at c_5
    have c_5 : ¬ 1 = 0 := n_ne c_5
    refine lv_aload_n hx hb dT_compare_8 rfl (lv_at hl 0 rfl) ?_
    refine lv_iload_n hx hb dT_compare_9 rfl (lv_at hl 2 rfl) ?_
    refine ro_ki (va_runV (As := [.int y]) (rest := []) ⟨hx, hb, hml, hown, hts⟩ (c_isBlock_no l D cI cJ cZ o rm n bs aP aH aC aT aB aZ aW aR oR oW y hx9) (cwV 1 hts gT_compare_T_isBlock_76 rfl rfl rfl (by decide +kernel) ⟨Nat.le_of_ble_eq_true rfl, Nat.le_of_ble_eq_true rfl⟩) (ro_preV (hP.sub [0] rfl) hK (va_recv hK hP (ci := 2) (q0 := 0) rfl rfl)) rfl rfl hl.1 rfl (lv_room (Nat.le_of_ble_eq_true rfl)) dT_compare_10 ⟨Nat.le_of_ble_eq_true rfl, Nat.le_of_ble_eq_true rfl⟩) ?_
    refine lv_if_ne (tgt := 19) hx hb dT_compare_13 (by decide) (fun c_13 => ?_) (fun c_13 => ?_)
    · skip
      rw [← nI_0] at c_13
      have c_13 : ¬ 0 = 0 := n_ne c_13
      omega
    · skip
      rw [← nI_0] at c_13
      have c_13 : 0 = 0 := n_eq c_13 (by omega) (by omega)
      refine lv_bipush (v := (-2)) hx hb dT_compare_16 (by decide) ?_
      exact ro_iret hQ hx hb hr hlocks dT_compare_18 rfl

abbrev rm_c_work_ok : Room := { frames := 1, cells := 0, slots := 0, locals := 23 }
set_option maxRecDepth 100000 in
set_option maxHeartbeats 4000000 in
theorem c_work_ok (l : Launch) (D : va_G) (cI cJ cZ : ClassId) (o : Nat) (rm : Nat) (n : Nat) (bs : Nat) (aP : Nat) (aH : Nat) (aC : Nat) (aT : Nat) (aB : Nat) (aZ : Nat) (aW : Nat) (aR : Nat) (oR : Nat) (oW : Nat) (Wk : Nat → Int64) (j : Nat) (k : Nat) (hn3 : n ≤ rm) (hr3 : rm ≤ 300) (hj : j < n) (hk : k < 4) : ro_C l yT_work wT_work rm_c_work_ok D vwCl (gT cI cJ cZ) [.ref o, .int (nI j), .int (nI k)] [(o, .inr (2, [.int (nI rm), .int (nI n), .int (nI bs), .ref aP, .ref aH, .ref aC, .ref aT, .ref aB, .ref aZ, .ref aW, .ref aR, .ref oR, .ref oW])), (aW, .inl (cJ, rm * 8, .inr (.inl Wk)))] (some (.long (m_join (Wk (j * 8 + 2 * k)) (Wk (j * 8 + 2 * k + 1))))) := by
  refine ro_of (cc := cT_work) (maxL := 4) (ret := some .long) (by decide) rfl (Nat.le_of_ble_eq_true rfl) ?_
  intro p e s m args below meth c Q ls hx hb hr hml hown hts hlocks hK hP hl hQ
  have hl : lv_has ls 4 [(0, .ref o), (1, .int (nI j)), (2, .int (nI k))] := hl
  have hown : s.vm.findClass RT = some m.cls := hown
  refine lv_aload_n hx hb dT_work_0 rfl (lv_at hl 0 rfl) ?_
  refine lv_iload_n hx hb dT_work_1 rfl (lv_at hl 1 rfl) ?_
  refine ro_ki (va_runV (As := [.int (nI j)]) (rest := []) ⟨hx, hb, hml, hown, hts⟩ (c_isBlock_ok l D cI cJ cZ o rm n bs aP aH aC aT aB aZ aW aR oR oW j (by omega) (by omega)) (cwV 1 hts gT_work_T_isBlock_76 rfl rfl rfl (by decide +kernel) ⟨Nat.le_of_ble_eq_true rfl, Nat.le_of_ble_eq_true rfl⟩) (ro_preV (hP.sub [0] rfl) hK (va_recv hK hP (ci := 2) (q0 := 0) rfl rfl)) rfl rfl hl.1 rfl (lv_room (Nat.le_of_ble_eq_true rfl)) dT_work_2 ⟨Nat.le_of_ble_eq_true rfl, Nat.le_of_ble_eq_true rfl⟩) ?_
  refine lv_if_eq (tgt := 17) hx hb dT_work_5 (by decide) (fun c_5 => ?_) (fun c_5 => ?_)
  · skip
    rw [← nI_0] at c_5
    have c_5 : 1 = 0 := n_eq c_5 (by omega) (by omega)
    omega
  · skip
    rw [← nI_0] at c_5
    have c_5 : ¬ 1 = 0 := n_ne c_5
    refine lv_iload_n hx hb dT_work_8 rfl (lv_at hl 2 rfl) ?_
    refine lv_if_lt (tgt := 17) hx hb dT_work_9 (by decide) (fun c_9 => ?_) (fun c_9 => ?_)
    · skip
      rw [← nI_0] at c_9
      have c_9 : k < 0 := n_lt c_9 (by omega) (by omega)
      omega
    · skip
      rw [← nI_0] at c_9
      have c_9 : 0 ≤ k := n_nlt c_9 (by omega) (by omega)
      refine lv_iload_n hx hb dT_work_12 rfl (lv_at hl 2 rfl) ?_
      refine lv_iconst (v := nI 4) hx hb dT_work_13 (by decide) ?_
      refine lv_icmp_lt (tgt := 19) hx hb dT_work_14 (by decide) (fun c_14 => ?_) (fun c_14 => ?_)
      · skip
        have c_14 : k < 4 := n_lt c_14 (by omega) (by omega)
        refine lv_iload_n hx hb dT_work_19 rfl (lv_at hl 1 rfl) ?_
        refine lv_bipush (v := nI 8) hx hb dT_work_20 (by decide) ?_
        refine lv_imul hx hb dT_work_22 ?_
        refine tp_i (y := nI (j * 8)) (pk_mul _ _) ?_
        refine lv_iconst (v := nI 2) hx hb dT_work_23 (by decide) ?_
        refine lv_iload_n hx hb dT_work_24 rfl (lv_at hl 2 rfl) ?_
        refine lv_imul hx hb dT_work_25 ?_
        refine tp_i (y := nI (2 * k)) (pk_mul _ _) ?_
        refine lv_iadd hx hb dT_work_26 ?_
        refine tp_i (y := nI ((j * 8) + (2 * k))) (nI_add _ _) ?_
        refine lv_istore_n (lv' := [(3, .int (nI ((j * 8) + (2 * k)))), (0, .ref o), (1, .int (nI j)), (2, .int (nI k))]) hx hb dT_work_27 rfl hl (by decide) rfl (fun ls hl => ?_)
        refine lv_aload_n hx hb dT_work_28 rfl (lv_at hl 1 rfl) ?_
        refine va_get (D := D) (ci := 2) (v := .ref aW) (C := RT) (T := TT) (N := 13) hx hb hts iT_work_T hown hK hP 0 rfl rfl 9 (by decide) (hts (.fieldLink RT 36 "TreeDesk" "works" "[J") (by decide +kernel)) (fun _ h9 => h9) rfl dT_work_29 ?_
        refine lv_iload_n hx hb dT_work_32 rfl (lv_at hl 0 rfl) ?_
        refine ar_lld (j := (j * 8) + (2 * k)) hx hb hK hP 1 1 rfl rfl dT_work_33 (by omega) (by omega) ?_
        refine lv_aload_n hx hb dT_work_34 rfl (lv_at hl 1 rfl) ?_
        refine va_get (D := D) (ci := 2) (v := .ref aW) (C := RT) (T := TT) (N := 13) hx hb hts iT_work_T hown hK hP 0 rfl rfl 9 (by decide) (hts (.fieldLink RT 36 "TreeDesk" "works" "[J") (by decide +kernel)) (fun _ h9 => h9) rfl dT_work_35 ?_
        refine lv_iload_n hx hb dT_work_38 rfl (lv_at hl 0 rfl) ?_
        refine lv_iconst (v := nI 1) hx hb dT_work_39 (by decide) ?_
        refine lv_iadd hx hb dT_work_40 ?_
        refine tp_i (y := nI (((j * 8) + (2 * k)) + 1)) (nI_add _ _) ?_
        refine ar_lld (j := ((j * 8) + (2 * k)) + 1) hx hb hK hP 1 1 rfl rfl dT_work_41 (by omega) (by omega) ?_
        refine ro_kl (va_runS (As := [.long (Wk ((j * 8) + (2 * k))), .long (Wk (((j * 8) + (2 * k)) + 1))]) (rest := []) ⟨hx, hb, hml, hown, hts⟩ (c_B_join l D cI cJ cZ (Wk ((j * 8) + (2 * k))) (Wk (((j * 8) + (2 * k)) + 1))) (va_cwS 2 hts gT_work_B_join_113 rfl rfl rfl (by decide +kernel) ⟨Nat.le_of_ble_eq_true rfl, Nat.le_of_ble_eq_true rfl⟩) (ro_preS (hP.sub [] rfl) hK) rfl rfl hl.1 rfl (lv_room (Nat.le_of_ble_eq_true rfl)) dT_work_42 ⟨Nat.le_of_ble_eq_true rfl, Nat.le_of_ble_eq_true rfl⟩) ?_
        exact ro_lret hQ hx hb hr hlocks dT_work_45 rfl
      · skip
        have c_14 : 4 ≤ k := n_nlt c_14 (by omega) (by omega)
        omega

abbrev rm_c_work_nob : Room := { frames := 1, cells := 0, slots := 0, locals := 23 }
set_option maxRecDepth 100000 in
set_option maxHeartbeats 4000000 in
theorem c_work_nob (l : Launch) (D : va_G) (cI cJ cZ : ClassId) (o : Nat) (rm : Nat) (n : Nat) (bs : Nat) (aP : Nat) (aH : Nat) (aC : Nat) (aT : Nat) (aB : Nat) (aZ : Nat) (aW : Nat) (aR : Nat) (oR : Nat) (oW : Nat) (x : Int32) (k : Int32) (hx9 : ¬ (0 ≤ x ∧ x < nI n)) : ro_C l yT_work wT_work rm_c_work_nob D vwCl (gT cI cJ cZ) [.ref o, .int x, .int k] [(o, .inr (2, [.int (nI rm), .int (nI n), .int (nI bs), .ref aP, .ref aH, .ref aC, .ref aT, .ref aB, .ref aZ, .ref aW, .ref aR, .ref oR, .ref oW]))] (some (.long 0)) := by
  refine ro_of (cc := cT_work) (maxL := 4) (ret := some .long) (by decide) rfl (Nat.le_of_ble_eq_true rfl) ?_
  intro p e s m args below meth c Q ls hx hb hr hml hown hts hlocks hK hP hl hQ
  have hl : lv_has ls 4 [(0, .ref o), (1, .int x), (2, .int k)] := hl
  have hown : s.vm.findClass RT = some m.cls := hown
  refine lv_aload_n hx hb dT_work_0 rfl (lv_at hl 0 rfl) ?_
  refine lv_iload_n hx hb dT_work_1 rfl (lv_at hl 1 rfl) ?_
  refine ro_ki (va_runV (As := [.int x]) (rest := []) ⟨hx, hb, hml, hown, hts⟩ (c_isBlock_no l D cI cJ cZ o rm n bs aP aH aC aT aB aZ aW aR oR oW x hx9) (cwV 1 hts gT_work_T_isBlock_76 rfl rfl rfl (by decide +kernel) ⟨Nat.le_of_ble_eq_true rfl, Nat.le_of_ble_eq_true rfl⟩) (ro_preV (hP.sub [0] rfl) hK (va_recv hK hP (ci := 2) (q0 := 0) rfl rfl)) rfl rfl hl.1 rfl (lv_room (Nat.le_of_ble_eq_true rfl)) dT_work_2 ⟨Nat.le_of_ble_eq_true rfl, Nat.le_of_ble_eq_true rfl⟩) ?_
  refine lv_if_eq (tgt := 17) hx hb dT_work_5 (by decide) (fun c_5 => ?_) (fun c_5 => ?_)
  · skip
    rw [← nI_0] at c_5
    have c_5 : 0 = 0 := n_eq c_5 (by omega) (by omega)
    refine lv_lconst (v := 0) hx hb dT_work_17 (by decide) ?_
    exact ro_lret hQ hx hb hr hlocks dT_work_18 rfl
  · skip
    rw [← nI_0] at c_5
    have c_5 : ¬ 0 = 0 := n_ne c_5
    omega

abbrev rm_c_work_nok : Room := { frames := 1, cells := 0, slots := 0, locals := 23 }
set_option maxRecDepth 100000 in
set_option maxHeartbeats 4000000 in
theorem c_work_nok (l : Launch) (D : va_G) (cI cJ cZ : ClassId) (o : Nat) (rm : Nat) (n : Nat) (bs : Nat) (aP : Nat) (aH : Nat) (aC : Nat) (aT : Nat) (aB : Nat) (aZ : Nat) (aW : Nat) (aR : Nat) (oR : Nat) (oW : Nat) (j : Nat) (k : Int32) (hn9 : n ≤ 300) (hj : j < n) (hk9 : ¬ (0 ≤ k ∧ k < nI 4)) : ro_C l yT_work wT_work rm_c_work_nok D vwCl (gT cI cJ cZ) [.ref o, .int (nI j), .int k] [(o, .inr (2, [.int (nI rm), .int (nI n), .int (nI bs), .ref aP, .ref aH, .ref aC, .ref aT, .ref aB, .ref aZ, .ref aW, .ref aR, .ref oR, .ref oW]))] (some (.long 0)) := by
  refine ro_of (cc := cT_work) (maxL := 4) (ret := some .long) (by decide) rfl (Nat.le_of_ble_eq_true rfl) ?_
  intro p e s m args below meth c Q ls hx hb hr hml hown hts hlocks hK hP hl hQ
  have hl : lv_has ls 4 [(0, .ref o), (1, .int (nI j)), (2, .int k)] := hl
  have hown : s.vm.findClass RT = some m.cls := hown
  refine lv_aload_n hx hb dT_work_0 rfl (lv_at hl 0 rfl) ?_
  refine lv_iload_n hx hb dT_work_1 rfl (lv_at hl 1 rfl) ?_
  refine ro_ki (va_runV (As := [.int (nI j)]) (rest := []) ⟨hx, hb, hml, hown, hts⟩ (c_isBlock_ok l D cI cJ cZ o rm n bs aP aH aC aT aB aZ aW aR oR oW j (by omega) (by omega)) (cwV 1 hts gT_work_T_isBlock_76 rfl rfl rfl (by decide +kernel) ⟨Nat.le_of_ble_eq_true rfl, Nat.le_of_ble_eq_true rfl⟩) (ro_preV (hP.sub [0] rfl) hK (va_recv hK hP (ci := 2) (q0 := 0) rfl rfl)) rfl rfl hl.1 rfl (lv_room (Nat.le_of_ble_eq_true rfl)) dT_work_2 ⟨Nat.le_of_ble_eq_true rfl, Nat.le_of_ble_eq_true rfl⟩) ?_
  refine lv_if_eq (tgt := 17) hx hb dT_work_5 (by decide) (fun c_5 => ?_) (fun c_5 => ?_)
  · skip
    rw [← nI_0] at c_5
    have c_5 : 1 = 0 := n_eq c_5 (by omega) (by omega)
    omega
  · skip
    rw [← nI_0] at c_5
    have c_5 : ¬ 1 = 0 := n_ne c_5
    refine lv_iload_n hx hb dT_work_8 rfl (lv_at hl 2 rfl) ?_
    refine lv_if_lt (tgt := 17) hx hb dT_work_9 (by decide) (fun c_9 => ?_) (fun c_9 => ?_)
    · skip
      refine lv_lconst (v := 0) hx hb dT_work_17 (by decide) ?_
      exact ro_lret hQ hx hb hr hlocks dT_work_18 rfl
    · skip
      refine lv_iload_n hx hb dT_work_12 rfl (lv_at hl 2 rfl) ?_
      refine lv_iconst (v := nI 4) hx hb dT_work_13 (by decide) ?_
      refine lv_icmp_lt (tgt := 19) hx hb dT_work_14 (by decide) (fun c_14 => ?_) (fun c_14 => ?_)
      · skip
        exact absurd ⟨Int32.not_lt.mp c_9, c_14⟩ hk9
      · skip
        refine lv_lconst (v := 0) hx hb dT_work_17 (by decide) ?_
        exact ro_lret hQ hx hb hr hlocks dT_work_18 rfl

abbrev rm_c_ancestor : Room := { frames := 0, cells := 0, slots := 0, locals := 0 }
set_option maxRecDepth 100000 in
set_option maxHeartbeats 4000000 in
theorem c_ancestor (l : Launch) (D : va_G) (cI cJ cZ : ClassId) (o : Nat) (rm : Nat) (n : Nat) (bs : Nat) (aP : Nat) (aH : Nat) (aC : Nat) (aT : Nat) (aB : Nat) (aZ : Nat) (aW : Nat) (aR : Nat) (oR : Nat) (oW : Nat) (P : Nat → Nat) (Hh : Nat → Nat) (j : Nat) (h : Nat) (hn3 : n ≤ rm) (hr3 : rm ≤ 300) (hj : j < n) (hHj : Hh j < 300) (hh : h ≤ Hh j) (hpar : ∀ x : Nat, 0 < x → x < n → P x < x) : ro_C l yT_ancestor wT_ancestor rm_c_ancestor D vwCl (gT cI cJ cZ) [.ref o, .int (nI j), .int (nI h)] [(o, .inr (2, [.int (nI rm), .int (nI n), .int (nI bs), .ref aP, .ref aH, .ref aC, .ref aT, .ref aB, .ref aZ, .ref aW, .ref aR, .ref oR, .ref oW])), (aP, .inl (cI, rm, .inl (pF P))), (aH, .inl (cI, rm, .inl (nF Hh)))] (some (.int (nI (m_anc P (Hh j - h) j)))) := by
  refine ro_of (cc := cT_ancestor) (maxL := 5) (ret := some .int) (by decide) rfl (Nat.le_of_ble_eq_true rfl) ?_
  intro p e s m args below meth c Q ls hx hb hr hml hown hts hlocks hK hP hl hQ
  have hl : lv_has ls 5 [(0, .ref o), (1, .int (nI j)), (2, .int (nI h))] := hl
  have hown : s.vm.findClass RT = some m.cls := hown
  refine lv_iload_n hx hb dT_ancestor_0 rfl (lv_at hl 1 rfl) ?_
  refine lv_istore_n (lv' := [(3, .int (nI j)), (0, .ref o), (1, .int (nI j)), (2, .int (nI h))]) hx hb dT_ancestor_1 rfl hl (by decide) rfl (fun ls hl => ?_)
  refine lv_aload_n hx hb dT_ancestor_2 rfl (lv_at hl 1 rfl) ?_
  refine va_get (D := D) (ci := 2) (v := .ref aH) (C := RT) (T := TT) (N := 13) hx hb hts iT_ancestor_T hown hK hP 0 rfl rfl 4 (by decide) (hts (.fieldLink RT 17 "TreeDesk" "heights" "[I") (by decide +kernel)) (fun _ h9 => h9) rfl dT_ancestor_3 ?_
  refine lv_iload_n hx hb dT_ancestor_6 rfl (lv_at hl 2 rfl) ?_
  refine ar_ild (j := j) hx hb hK hP 2 0 rfl rfl dT_ancestor_7 (by omega) (by omega) ?_
  refine tp_i (y := nI (Hh j)) rfl ?_
  refine lv_iload_n hx hb dT_ancestor_8 rfl (lv_at hl 3 rfl) ?_
  refine lv_isub hx hb dT_ancestor_9 ?_
  refine tp_i (y := nI ((Hh j) - h)) (pk_sub (by omega)) ?_
  refine lv_istore (lv' := [(4, .int (nI ((Hh j) - h))), (3, .int (nI j)), (0, .ref o), (1, .int (nI j)), (2, .int (nI h))]) hx hb dT_ancestor_10 hl (by decide) rfl (fun ls hl => ?_)
  have lp_12 : ∀ (n_12 : Nat) (d x : Nat), (d < n_12) → (d < 300) → (x < n) → (m_anc P d x = m_anc P (Hh j - h) j) → ∀ (ls : Array Slot), lv_has ls 5 [(0, .ref o), (3, .int (nI x)), (4, .int (nI d))] → W p l e rm_c_ancestor s m args below meth c s.heap [] 0 0 Q (F0 m 12 ls []) := by
    intro n_12
    induction n_12 with
    | zero => intro d x hn hd hx9 hg ls hl; exact absurd hn (by omega)
    | succ n_12 ih_12 =>
      intro d x hn hd hx9 hg ls hl
      refine lv_iload hx hb dT_ancestor_12 (lv_at hl 2 rfl) ?_
      refine lv_if_le (tgt := 34) hx hb dT_ancestor_14 (by decide) (fun c_14 => ?_) (fun c_14 => ?_)
      · skip
        rw [← nI_0] at c_14
        have c_14 : d ≤ 0 := n_le c_14 (by omega) (by omega)
        refine lv_iload_n hx hb dT_ancestor_34 rfl (lv_at hl 1 rfl) ?_
        exact ro_iret hQ hx hb hr hlocks dT_ancestor_35 (by rw [← hg, m_anc_d (by omega)])
      · skip
        rw [← nI_0] at c_14
        have c_14 : 0 < d := n_nle c_14 (by omega) (by omega)
        refine lv_iload_n hx hb dT_ancestor_17 rfl (lv_at hl 1 rfl) ?_
        refine lv_if_le (tgt := 34) hx hb dT_ancestor_18 (by decide) (fun c_18 => ?_) (fun c_18 => ?_)
        · skip
          rw [← nI_0] at c_18
          have c_18 : x ≤ 0 := n_le c_18 (by omega) (by omega)
          refine lv_iload_n hx hb dT_ancestor_34 rfl (lv_at hl 1 rfl) ?_
          exact ro_iret hQ hx hb hr hlocks dT_ancestor_35 (by rw [← hg, m_anc_0 (by omega)])
        · skip
          rw [← nI_0] at c_18
          have c_18 : 0 < x := n_nle c_18 (by omega) (by omega)
          refine lv_aload_n hx hb dT_ancestor_21 rfl (lv_at hl 0 rfl) ?_
          refine va_get (D := D) (ci := 2) (v := .ref aP) (C := RT) (T := TT) (N := 13) hx hb hts iT_ancestor_T hown hK hP 0 rfl rfl 3 (by decide) (hts (.fieldLink RT 13 "TreeDesk" "parents" "[I") (by decide +kernel)) (fun _ h9 => h9) rfl dT_ancestor_22 ?_
          refine lv_iload_n hx hb dT_ancestor_25 rfl (lv_at hl 1 rfl) ?_
          refine ar_ild (j := x) hx hb hK hP 1 0 rfl rfl dT_ancestor_26 (by omega) (by omega) ?_
          refine tp_i (y := nI (P x)) (pF_s (by omega)) ?_
          refine lv_istore_n (lv' := [(3, .int (nI (P x))), (0, .ref o), (4, .int (nI d))]) hx hb dT_ancestor_27 rfl hl (by decide) rfl (fun ls hl => ?_)
          refine lv_iinc (v := nI (d - 1)) (lv' := [(4, .int (nI (d - 1))), (3, .int (nI (P x))), (0, .ref o)]) hx hb dT_ancestor_28 hl (k := 2) rfl (sb_m1 (by omega)) (by decide) rfl (fun ls hl => ?_)
          refine lv_goto (tgt := 12) hx hb dT_ancestor_31 (by decide) ?_
          exact ih_12 (d - 1) (P x) (by omega) (by omega) (by have := hpar x (by omega) hx9; omega) ((m_anc_s (by omega) (by omega)).trans hg) ls (lv_sub hl [2, 1, 0] rfl)
  exact lp_12 301 (Hh j - h) j (by omega) (by omega) (by omega) rfl ls (lv_sub hl [2, 1, 0] rfl)

abbrev rm_c_below_ok : Room := { frames := 1, cells := 0, slots := 0, locals := 24 }
set_option maxRecDepth 100000 in
set_option maxHeartbeats 4000000 in
theorem c_below_ok (l : Launch) (D : va_G) (cI cJ cZ : ClassId) (o : Nat) (rm : Nat) (n : Nat) (bs : Nat) (aP : Nat) (aH : Nat) (aC : Nat) (aT : Nat) (aB : Nat) (aZ : Nat) (aW : Nat) (aR : Nat) (oR : Nat) (oW : Nat) (P : Nat → Nat) (Hh : Nat → Nat) (j : Nat) (h : Nat) (hn3 : n ≤ rm) (hr3 : rm ≤ 300) (hj : j < n) (hHj : Hh j < 300) (hh : h ≤ Hh j) (hpar : ∀ x : Nat, 0 < x → x < n → P x < x) : ro_C l yT_below wT_below rm_c_below_ok D vwCl (gT cI cJ cZ) [.ref o, .int (nI j), .int (nI h)] [(o, .inr (2, [.int (nI rm), .int (nI n), .int (nI bs), .ref aP, .ref aH, .ref aC, .ref aT, .ref aB, .ref aZ, .ref aW, .ref aR, .ref oR, .ref oW])), (aP, .inl (cI, rm, .inl (pF P))), (aH, .inl (cI, rm, .inl (nF Hh)))] (some (.int (nI (m_anc P (Hh j - h) j)))) := by
  refine ro_of (cc := cT_below) (maxL := 3) (ret := some .int) (by decide) rfl (Nat.le_of_ble_eq_true rfl) ?_
  intro p e s m args below meth c Q ls hx hb hr hml hown hts hlocks hK hP hl hQ
  have hl : lv_has ls 3 [(0, .ref o), (1, .int (nI j)), (2, .int (nI h))] := hl
  have hown : s.vm.findClass RT = some m.cls := hown
  refine lv_aload_n hx hb dT_below_0 rfl (lv_at hl 0 rfl) ?_
  refine lv_iload_n hx hb dT_below_1 rfl (lv_at hl 1 rfl) ?_
  refine ro_ki (va_runV (As := [.int (nI j)]) (rest := []) ⟨hx, hb, hml, hown, hts⟩ (c_isBlock_ok l D cI cJ cZ o rm n bs aP aH aC aT aB aZ aW aR oR oW j (by omega) (by omega)) (cwV 1 hts gT_below_T_isBlock_76 rfl rfl rfl (by decide +kernel) ⟨Nat.le_of_ble_eq_true rfl, Nat.le_of_ble_eq_true rfl⟩) (ro_preV (hP.sub [0] rfl) hK (va_recv hK hP (ci := 2) (q0 := 0) rfl rfl)) rfl rfl hl.1 rfl (lv_room (Nat.le_of_ble_eq_true rfl)) dT_below_2 ⟨Nat.le_of_ble_eq_true rfl, Nat.le_of_ble_eq_true rfl⟩) ?_
  refine lv_if_eq (tgt := 22) hx hb dT_below_5 (by decide) (fun c_5 => ?_) (fun c_5 => ?_)
  · skip
    rw [← nI_0] at c_5
    have c_5 : 1 = 0 := n_eq c_5 (by omega) (by omega)
    omega
  · skip
    rw [← nI_0] at c_5
    have c_5 : ¬ 1 = 0 := n_ne c_5
    refine lv_iload_n hx hb dT_below_8 rfl (lv_at hl 2 rfl) ?_
    refine lv_if_lt (tgt := 22) hx hb dT_below_9 (by decide) (fun c_9 => ?_) (fun c_9 => ?_)
    · skip
      rw [← nI_0] at c_9
      have c_9 : h < 0 := n_lt c_9 (by omega) (by omega)
      omega
    · skip
      rw [← nI_0] at c_9
      have c_9 : 0 ≤ h := n_nlt c_9 (by omega) (by omega)
      refine lv_iload_n hx hb dT_below_12 rfl (lv_at hl 2 rfl) ?_
      refine lv_aload_n hx hb dT_below_13 rfl (lv_at hl 0 rfl) ?_
      refine va_get (D := D) (ci := 2) (v := .ref aH) (C := RT) (T := TT) (N := 13) hx hb hts iT_below_T hown hK hP 0 rfl rfl 4 (by decide) (hts (.fieldLink RT 17 "TreeDesk" "heights" "[I") (by decide +kernel)) (fun _ h9 => h9) rfl dT_below_14 ?_
      refine lv_iload_n hx hb dT_below_17 rfl (lv_at hl 1 rfl) ?_
      refine ar_ild (j := j) hx hb hK hP 2 0 rfl rfl dT_below_18 (by omega) (by omega) ?_
      refine tp_i (y := nI (Hh j)) rfl ?_
      refine lv_icmp_le (tgt := 24) hx hb dT_below_19 (by decide) (fun c_19 => ?_) (fun c_19 => ?_)
      · skip
        have c_19 : h ≤ (Hh j) := n_le c_19 (by omega) (by omega)
        refine lv_aload_n hx hb dT_below_24 rfl (lv_at hl 0 rfl) ?_
        refine lv_iload_n hx hb dT_below_25 rfl (lv_at hl 1 rfl) ?_
        refine lv_iload_n hx hb dT_below_26 rfl (lv_at hl 2 rfl) ?_
        refine ro_ki (va_runV (As := [.int (nI j), .int (nI h)]) (rest := []) ⟨hx, hb, hml, hown, hts⟩ (c_ancestor l D cI cJ cZ o rm n bs aP aH aC aT aB aZ aW aR oR oW P Hh j h (by omega) (by omega) (by omega) (by omega) (by omega) hpar) (cwV 2 hts gT_below_T_ancestor_101 rfl rfl rfl (by decide +kernel) ⟨Nat.le_of_ble_eq_true rfl, Nat.le_of_ble_eq_true rfl⟩) (ro_preV (hP.sub [0, 1, 2] rfl) hK (va_recv hK hP (ci := 2) (q0 := 0) rfl rfl)) rfl rfl hl.1 rfl (lv_room (Nat.le_of_ble_eq_true rfl)) dT_below_27 ⟨Nat.le_of_ble_eq_true rfl, Nat.le_of_ble_eq_true rfl⟩) ?_
        exact ro_iret hQ hx hb hr hlocks dT_below_30 rfl
      · skip
        have c_19 : (Hh j) < h := n_nle c_19 (by omega) (by omega)
        omega

abbrev rm_c_below_nob : Room := { frames := 1, cells := 0, slots := 0, locals := 24 }
set_option maxRecDepth 100000 in
set_option maxHeartbeats 4000000 in
theorem c_below_nob (l : Launch) (D : va_G) (cI cJ cZ : ClassId) (o : Nat) (rm : Nat) (n : Nat) (bs : Nat) (aP : Nat) (aH : Nat) (aC : Nat) (aT : Nat) (aB : Nat) (aZ : Nat) (aW : Nat) (aR : Nat) (oR : Nat) (oW : Nat) (x : Int32) (h : Int32) (hx9 : ¬ (0 ≤ x ∧ x < nI n)) : ro_C l yT_below wT_below rm_c_below_nob D vwCl (gT cI cJ cZ) [.ref o, .int x, .int h] [(o, .inr (2, [.int (nI rm), .int (nI n), .int (nI bs), .ref aP, .ref aH, .ref aC, .ref aT, .ref aB, .ref aZ, .ref aW, .ref aR, .ref oR, .ref oW]))] (some (.int (-1))) := by
  refine ro_of (cc := cT_below) (maxL := 3) (ret := some .int) (by decide) rfl (Nat.le_of_ble_eq_true rfl) ?_
  intro p e s m args below meth c Q ls hx hb hr hml hown hts hlocks hK hP hl hQ
  have hl : lv_has ls 3 [(0, .ref o), (1, .int x), (2, .int h)] := hl
  have hown : s.vm.findClass RT = some m.cls := hown
  refine lv_aload_n hx hb dT_below_0 rfl (lv_at hl 0 rfl) ?_
  refine lv_iload_n hx hb dT_below_1 rfl (lv_at hl 1 rfl) ?_
  refine ro_ki (va_runV (As := [.int x]) (rest := []) ⟨hx, hb, hml, hown, hts⟩ (c_isBlock_no l D cI cJ cZ o rm n bs aP aH aC aT aB aZ aW aR oR oW x hx9) (cwV 1 hts gT_below_T_isBlock_76 rfl rfl rfl (by decide +kernel) ⟨Nat.le_of_ble_eq_true rfl, Nat.le_of_ble_eq_true rfl⟩) (ro_preV (hP.sub [0] rfl) hK (va_recv hK hP (ci := 2) (q0 := 0) rfl rfl)) rfl rfl hl.1 rfl (lv_room (Nat.le_of_ble_eq_true rfl)) dT_below_2 ⟨Nat.le_of_ble_eq_true rfl, Nat.le_of_ble_eq_true rfl⟩) ?_
  refine lv_if_eq (tgt := 22) hx hb dT_below_5 (by decide) (fun c_5 => ?_) (fun c_5 => ?_)
  · skip
    rw [← nI_0] at c_5
    have c_5 : 0 = 0 := n_eq c_5 (by omega) (by omega)
    refine lv_iconst (v := (-1)) hx hb dT_below_22 (by decide) ?_
    exact ro_iret hQ hx hb hr hlocks dT_below_23 rfl
  · skip
    rw [← nI_0] at c_5
    have c_5 : ¬ 0 = 0 := n_ne c_5
    omega

abbrev rm_c_below_noh : Room := { frames := 1, cells := 0, slots := 0, locals := 24 }
set_option maxRecDepth 100000 in
set_option maxHeartbeats 4000000 in
theorem c_below_noh (l : Launch) (D : va_G) (cI cJ cZ : ClassId) (o : Nat) (rm : Nat) (n : Nat) (bs : Nat) (aP : Nat) (aH : Nat) (aC : Nat) (aT : Nat) (aB : Nat) (aZ : Nat) (aW : Nat) (aR : Nat) (oR : Nat) (oW : Nat) (Hh : Nat → Nat) (j : Nat) (h : Int32) (hn3 : n ≤ rm) (hr3 : rm ≤ 300) (hj : j < n) (hh9 : ¬ (0 ≤ h ∧ h ≤ nI (Hh j))) : ro_C l yT_below wT_below rm_c_below_noh D vwCl (gT cI cJ cZ) [.ref o, .int (nI j), .int h] [(o, .inr (2, [.int (nI rm), .int (nI n), .int (nI bs), .ref aP, .ref aH, .ref aC, .ref aT, .ref aB, .ref aZ, .ref aW, .ref aR, .ref oR, .ref oW])), (aH, .inl (cI, rm, .inl (nF Hh)))] (some (.int (-1))) := by
  refine ro_of (cc := cT_below) (maxL := 3) (ret := some .int) (by decide) rfl (Nat.le_of_ble_eq_true rfl) ?_
  intro p e s m args below meth c Q ls hx hb hr hml hown hts hlocks hK hP hl hQ
  have hl : lv_has ls 3 [(0, .ref o), (1, .int (nI j)), (2, .int h)] := hl
  have hown : s.vm.findClass RT = some m.cls := hown
  refine lv_aload_n hx hb dT_below_0 rfl (lv_at hl 0 rfl) ?_
  refine lv_iload_n hx hb dT_below_1 rfl (lv_at hl 1 rfl) ?_
  refine ro_ki (va_runV (As := [.int (nI j)]) (rest := []) ⟨hx, hb, hml, hown, hts⟩ (c_isBlock_ok l D cI cJ cZ o rm n bs aP aH aC aT aB aZ aW aR oR oW j (by omega) (by omega)) (cwV 1 hts gT_below_T_isBlock_76 rfl rfl rfl (by decide +kernel) ⟨Nat.le_of_ble_eq_true rfl, Nat.le_of_ble_eq_true rfl⟩) (ro_preV (hP.sub [0] rfl) hK (va_recv hK hP (ci := 2) (q0 := 0) rfl rfl)) rfl rfl hl.1 rfl (lv_room (Nat.le_of_ble_eq_true rfl)) dT_below_2 ⟨Nat.le_of_ble_eq_true rfl, Nat.le_of_ble_eq_true rfl⟩) ?_
  refine lv_if_eq (tgt := 22) hx hb dT_below_5 (by decide) (fun c_5 => ?_) (fun c_5 => ?_)
  · skip
    rw [← nI_0] at c_5
    have c_5 : 1 = 0 := n_eq c_5 (by omega) (by omega)
    omega
  · skip
    rw [← nI_0] at c_5
    have c_5 : ¬ 1 = 0 := n_ne c_5
    refine lv_iload_n hx hb dT_below_8 rfl (lv_at hl 2 rfl) ?_
    refine lv_if_lt (tgt := 22) hx hb dT_below_9 (by decide) (fun c_9 => ?_) (fun c_9 => ?_)
    · skip
      refine lv_iconst (v := (-1)) hx hb dT_below_22 (by decide) ?_
      exact ro_iret hQ hx hb hr hlocks dT_below_23 rfl
    · skip
      refine lv_iload_n hx hb dT_below_12 rfl (lv_at hl 2 rfl) ?_
      refine lv_aload_n hx hb dT_below_13 rfl (lv_at hl 0 rfl) ?_
      refine va_get (D := D) (ci := 2) (v := .ref aH) (C := RT) (T := TT) (N := 13) hx hb hts iT_below_T hown hK hP 0 rfl rfl 4 (by decide) (hts (.fieldLink RT 17 "TreeDesk" "heights" "[I") (by decide +kernel)) (fun _ h9 => h9) rfl dT_below_14 ?_
      refine lv_iload_n hx hb dT_below_17 rfl (lv_at hl 1 rfl) ?_
      refine ar_ild (j := j) hx hb hK hP 1 0 rfl rfl dT_below_18 (by omega) (by omega) ?_
      refine tp_i (y := nI (Hh j)) rfl ?_
      refine lv_icmp_le (tgt := 24) hx hb dT_below_19 (by decide) (fun c_19 => ?_) (fun c_19 => ?_)
      · skip
        exact absurd ⟨Int32.not_lt.mp c_9, c_19⟩ hh9
      · skip
        refine lv_iconst (v := (-1)) hx hb dT_below_22 (by decide) ?_
        exact ro_iret hQ hx hb hr hlocks dT_below_23 rfl

abbrev rm_c_fork_ok : Room := { frames := 1, cells := 0, slots := 0, locals := 21 }
set_option maxRecDepth 100000 in
set_option maxHeartbeats 4000000 in
theorem c_fork_ok (l : Launch) (D : va_G) (cI cJ cZ : ClassId) (o : Nat) (rm : Nat) (n : Nat) (bs : Nat) (aP : Nat) (aH : Nat) (aC : Nat) (aT : Nat) (aB : Nat) (aZ : Nat) (aW : Nat) (aR : Nat) (oR : Nat) (oW : Nat) (P : Nat → Nat) (x : Nat) (y : Nat) (hn3 : n ≤ rm) (hr3 : rm ≤ 300) (hx9 : x < n) (hy9 : y < n) (hpar : ∀ x : Nat, 0 < x → x < n → P x < x) : ro_C l yT_fork wT_fork rm_c_fork_ok D vwCl (gT cI cJ cZ) [.ref o, .int (nI x), .int (nI y)] [(o, .inr (2, [.int (nI rm), .int (nI n), .int (nI bs), .ref aP, .ref aH, .ref aC, .ref aT, .ref aB, .ref aZ, .ref aW, .ref aR, .ref oR, .ref oW])), (aP, .inl (cI, rm, .inl (pF P)))] (some (.int (nI (m_fork P (2 * n) x y)))) := by
  refine ro_of (cc := cT_fork) (maxL := 6) (ret := some .int) (by decide) rfl (Nat.le_of_ble_eq_true rfl) ?_
  intro p e s m args below meth c Q ls hx hb hr hml hown hts hlocks hK hP hl hQ
  have hl : lv_has ls 6 [(0, .ref o), (1, .int (nI x)), (2, .int (nI y))] := hl
  have hown : s.vm.findClass RT = some m.cls := hown
  refine lv_aload_n hx hb dT_fork_0 rfl (lv_at hl 0 rfl) ?_
  refine lv_iload_n hx hb dT_fork_1 rfl (lv_at hl 1 rfl) ?_
  refine ro_ki (va_runV (As := [.int (nI x)]) (rest := []) ⟨hx, hb, hml, hown, hts⟩ (c_isBlock_ok l D cI cJ cZ o rm n bs aP aH aC aT aB aZ aW aR oR oW x (by omega) (by omega)) (cwV 1 hts gT_fork_T_isBlock_76 rfl rfl rfl (by decide +kernel) ⟨Nat.le_of_ble_eq_true rfl, Nat.le_of_ble_eq_true rfl⟩) (ro_preV (hP.sub [0] rfl) hK (va_recv hK hP (ci := 2) (q0 := 0) rfl rfl)) rfl rfl hl.1 rfl (lv_room (Nat.le_of_ble_eq_true rfl)) dT_fork_2 ⟨Nat.le_of_ble_eq_true rfl, Nat.le_of_ble_eq_true rfl⟩) ?_
  refine lv_if_eq (tgt := 16) hx hb dT_fork_5 (by decide) (fun c_5 => ?_) (fun c_5 => ?_)
  · skip
    rw [← nI_0] at c_5
    have c_5 : 1 = 0 := n_eq c_5 (by omega) (by omega)
    omega
  · skip
    rw [← nI_0] at c_5
    have c_5 : ¬ 1 = 0 := n_ne c_5
    refine lv_aload_n hx hb dT_fork_8 rfl (lv_at hl 0 rfl) ?_
    refine lv_iload_n hx hb dT_fork_9 rfl (lv_at hl 2 rfl) ?_
    refine ro_ki (va_runV (As := [.int (nI y)]) (rest := []) ⟨hx, hb, hml, hown, hts⟩ (c_isBlock_ok l D cI cJ cZ o rm n bs aP aH aC aT aB aZ aW aR oR oW y (by omega) (by omega)) (cwV 1 hts gT_fork_T_isBlock_76 rfl rfl rfl (by decide +kernel) ⟨Nat.le_of_ble_eq_true rfl, Nat.le_of_ble_eq_true rfl⟩) (ro_preV (hP.sub [0] rfl) hK (va_recv hK hP (ci := 2) (q0 := 0) rfl rfl)) rfl rfl hl.1 rfl (lv_room (Nat.le_of_ble_eq_true rfl)) dT_fork_10 ⟨Nat.le_of_ble_eq_true rfl, Nat.le_of_ble_eq_true rfl⟩) ?_
    refine lv_if_ne (tgt := 18) hx hb dT_fork_13 (by decide) (fun c_13 => ?_) (fun c_13 => ?_)
    · skip
      rw [← nI_0] at c_13
      have c_13 : ¬ 1 = 0 := n_ne c_13
      refine lv_iload_n hx hb dT_fork_18 rfl (lv_at hl 1 rfl) ?_
      refine lv_istore_n (lv' := [(3, .int (nI x)), (0, .ref o), (1, .int (nI x)), (2, .int (nI y))]) hx hb dT_fork_19 rfl hl (by decide) rfl (fun ls hl => ?_)
      refine lv_iload_n hx hb dT_fork_20 rfl (lv_at hl 3 rfl) ?_
      refine lv_istore (lv' := [(4, .int (nI y)), (3, .int (nI x)), (0, .ref o), (1, .int (nI x)), (2, .int (nI y))]) hx hb dT_fork_21 hl (by decide) rfl (fun ls hl => ?_)
      refine lv_iconst (v := nI 2) hx hb dT_fork_23 (by decide) ?_
      refine lv_aload_n hx hb dT_fork_24 rfl (lv_at hl 2 rfl) ?_
      refine va_get (D := D) (ci := 2) (v := .int (nI n)) (C := RT) (T := TT) (N := 13) hx hb hts iT_fork_T hown hK hP 0 rfl rfl 1 (by decide) (hts (.fieldLink RT 70 "TreeDesk" "count" "I") (by decide +kernel)) (fun _ h9 => h9) rfl dT_fork_25 ?_
      refine lv_imul hx hb dT_fork_28 ?_
      refine tp_i (y := nI (2 * n)) (pk_mul _ _) ?_
      refine lv_istore (lv' := [(5, .int (nI (2 * n))), (4, .int (nI y)), (3, .int (nI x)), (0, .ref o), (1, .int (nI x)), (2, .int (nI y))]) hx hb dT_fork_29 hl (by decide) rfl (fun ls hl => ?_)
      have lp_31 : ∀ (n_31 : Nat) (d u v : Nat), (d < n_31) → (d ≤ 600) → (u < n) → (v < n) → (m_fork P d u v = m_fork P (2 * n) x y) → ∀ (ls : Array Slot), lv_has ls 6 [(0, .ref o), (3, .int (nI u)), (4, .int (nI v)), (5, .int (nI d))] → W p l e rm_c_fork_ok s m args below meth c s.heap [] 0 0 Q (F0 m 31 ls []) := by
        intro n_31
        induction n_31 with
        | zero => intro d u v hn hd hu hv hg ls hl; exact absurd hn (by omega)
        | succ n_31 ih_31 =>
          intro d u v hn hd hu hv hg ls hl
          refine lv_iload hx hb dT_fork_31 (lv_at hl 3 rfl) ?_
          refine lv_if_le (tgt := 73) hx hb dT_fork_33 (by decide) (fun c_33 => ?_) (fun c_33 => ?_)
          · skip
            rw [← nI_0] at c_33
            have c_33 : d ≤ 0 := n_le c_33 (by omega) (by omega)
            refine lv_iload_n hx hb dT_fork_73 rfl (lv_at hl 1 rfl) ?_
            exact ro_iret hQ hx hb hr hlocks dT_fork_74 (by rw [← hg, m_fork_0 (by omega)])
          · skip
            rw [← nI_0] at c_33
            have c_33 : 0 < d := n_nle c_33 (by omega) (by omega)
            refine lv_iload_n hx hb dT_fork_36 rfl (lv_at hl 1 rfl) ?_
            refine lv_iload hx hb dT_fork_37 (lv_at hl 2 rfl) ?_
            refine lv_icmp_eq (tgt := 73) hx hb dT_fork_39 (by decide) (fun c_39 => ?_) (fun c_39 => ?_)
            · skip
              have c_39 : u = v := n_eq c_39 (by omega) (by omega)
              refine lv_iload_n hx hb dT_fork_73 rfl (lv_at hl 1 rfl) ?_
              exact ro_iret hQ hx hb hr hlocks dT_fork_74 (by rw [← hg, m_fork_e c_39])
            · skip
              have c_39 : ¬ u = v := n_ne c_39
              refine lv_iload_n hx hb dT_fork_42 rfl (lv_at hl 1 rfl) ?_
              refine lv_iload hx hb dT_fork_43 (lv_at hl 2 rfl) ?_
              refine lv_icmp_le (tgt := 58) hx hb dT_fork_45 (by decide) (fun c_45 => ?_) (fun c_45 => ?_)
              · skip
                have c_45 : u ≤ v := n_le c_45 (by omega) (by omega)
                refine lv_aload_n hx hb dT_fork_58 rfl (lv_at hl 0 rfl) ?_
                refine va_get (D := D) (ci := 2) (v := .ref aP) (C := RT) (T := TT) (N := 13) hx hb hts iT_fork_T hown hK hP 0 rfl rfl 3 (by decide) (hts (.fieldLink RT 13 "TreeDesk" "parents" "[I") (by decide +kernel)) (fun _ h9 => h9) rfl dT_fork_59 ?_
                refine lv_iload hx hb dT_fork_62 (lv_at hl 2 rfl) ?_
                refine ar_ild (j := v) hx hb hK hP 1 0 rfl rfl dT_fork_64 (by omega) (by omega) ?_
                refine tp_i (y := nI (P v)) (pF_s (by omega)) ?_
                refine lv_istore (lv' := [(4, .int (nI (P v))), (0, .ref o), (3, .int (nI u)), (5, .int (nI d))]) hx hb dT_fork_65 hl (by decide) rfl (fun ls hl => ?_)
                refine lv_iinc (v := nI (d - 1)) (lv' := [(5, .int (nI (d - 1))), (4, .int (nI (P v))), (0, .ref o), (3, .int (nI u))]) hx hb dT_fork_67 hl (k := 3) rfl (sb_m1 (by omega)) (by decide) rfl (fun ls hl => ?_)
                refine lv_goto (tgt := 31) hx hb dT_fork_70 (by decide) ?_
                exact ih_31 (d - 1) u (P v) (by omega) (by omega) hu (by have := hpar v (by omega) hv; omega) ((m_fork_r (by omega) c_45 c_39).trans hg) ls (lv_sub hl [2, 3, 1, 0] rfl)
              · skip
                have c_45 : v < u := n_nle c_45 (by omega) (by omega)
                refine lv_aload_n hx hb dT_fork_48 rfl (lv_at hl 0 rfl) ?_
                refine va_get (D := D) (ci := 2) (v := .ref aP) (C := RT) (T := TT) (N := 13) hx hb hts iT_fork_T hown hK hP 0 rfl rfl 3 (by decide) (hts (.fieldLink RT 13 "TreeDesk" "parents" "[I") (by decide +kernel)) (fun _ h9 => h9) rfl dT_fork_49 ?_
                refine lv_iload_n hx hb dT_fork_52 rfl (lv_at hl 1 rfl) ?_
                refine ar_ild (j := u) hx hb hK hP 1 0 rfl rfl dT_fork_53 (by omega) (by omega) ?_
                refine tp_i (y := nI (P u)) (pF_s (by omega)) ?_
                refine lv_istore_n (lv' := [(3, .int (nI (P u))), (0, .ref o), (4, .int (nI v)), (5, .int (nI d))]) hx hb dT_fork_54 rfl hl (by decide) rfl (fun ls hl => ?_)
                refine lv_goto (tgt := 67) hx hb dT_fork_55 (by decide) ?_
                refine lv_iinc (v := nI (d - 1)) (lv' := [(5, .int (nI (d - 1))), (3, .int (nI (P u))), (0, .ref o), (4, .int (nI v))]) hx hb dT_fork_67 hl (k := 3) rfl (sb_m1 (by omega)) (by decide) rfl (fun ls hl => ?_)
                refine lv_goto (tgt := 31) hx hb dT_fork_70 (by decide) ?_
                exact ih_31 (d - 1) (P u) v (by omega) (by omega) (by have := hpar u (by omega) hu; omega) hv ((m_fork_l (by omega) c_45).trans hg) ls (lv_sub hl [2, 1, 3, 0] rfl)
      exact lp_31 (2 * n + 1) (2 * n) x y (by omega) (by omega) hx9 hy9 rfl ls (lv_sub hl [3, 2, 1, 0] rfl)
    · skip
      rw [← nI_0] at c_13
      have c_13 : 1 = 0 := n_eq c_13 (by omega) (by omega)
      omega

abbrev rm_c_fork_noa : Room := { frames := 1, cells := 0, slots := 0, locals := 21 }
set_option maxRecDepth 100000 in
set_option maxHeartbeats 4000000 in
theorem c_fork_noa (l : Launch) (D : va_G) (cI cJ cZ : ClassId) (o : Nat) (rm : Nat) (n : Nat) (bs : Nat) (aP : Nat) (aH : Nat) (aC : Nat) (aT : Nat) (aB : Nat) (aZ : Nat) (aW : Nat) (aR : Nat) (oR : Nat) (oW : Nat) (x : Int32) (y : Int32) (hx9 : ¬ (0 ≤ x ∧ x < nI n)) : ro_C l yT_fork wT_fork rm_c_fork_noa D vwCl (gT cI cJ cZ) [.ref o, .int x, .int y] [(o, .inr (2, [.int (nI rm), .int (nI n), .int (nI bs), .ref aP, .ref aH, .ref aC, .ref aT, .ref aB, .ref aZ, .ref aW, .ref aR, .ref oR, .ref oW]))] (some (.int (-1))) := by
  refine ro_of (cc := cT_fork) (maxL := 6) (ret := some .int) (by decide) rfl (Nat.le_of_ble_eq_true rfl) ?_
  intro p e s m args below meth c Q ls hx hb hr hml hown hts hlocks hK hP hl hQ
  have hl : lv_has ls 6 [(0, .ref o), (1, .int x), (2, .int y)] := hl
  have hown : s.vm.findClass RT = some m.cls := hown
  refine lv_aload_n hx hb dT_fork_0 rfl (lv_at hl 0 rfl) ?_
  refine lv_iload_n hx hb dT_fork_1 rfl (lv_at hl 1 rfl) ?_
  refine ro_ki (va_runV (As := [.int x]) (rest := []) ⟨hx, hb, hml, hown, hts⟩ (c_isBlock_no l D cI cJ cZ o rm n bs aP aH aC aT aB aZ aW aR oR oW x hx9) (cwV 1 hts gT_fork_T_isBlock_76 rfl rfl rfl (by decide +kernel) ⟨Nat.le_of_ble_eq_true rfl, Nat.le_of_ble_eq_true rfl⟩) (ro_preV (hP.sub [0] rfl) hK (va_recv hK hP (ci := 2) (q0 := 0) rfl rfl)) rfl rfl hl.1 rfl (lv_room (Nat.le_of_ble_eq_true rfl)) dT_fork_2 ⟨Nat.le_of_ble_eq_true rfl, Nat.le_of_ble_eq_true rfl⟩) ?_
  refine lv_if_eq (tgt := 16) hx hb dT_fork_5 (by decide) (fun c_5 => ?_) (fun c_5 => ?_)
  · skip
    rw [← nI_0] at c_5
    have c_5 : 0 = 0 := n_eq c_5 (by omega) (by omega)
    refine lv_iconst (v := (-1)) hx hb dT_fork_16 (by decide) ?_
    exact ro_iret hQ hx hb hr hlocks dT_fork_17 rfl
  · skip
    rw [← nI_0] at c_5
    have c_5 : ¬ 0 = 0 := n_ne c_5
    omega

abbrev rm_c_fork_nob : Room := { frames := 1, cells := 0, slots := 0, locals := 21 }
set_option maxRecDepth 100000 in
set_option maxHeartbeats 4000000 in
theorem c_fork_nob (l : Launch) (D : va_G) (cI cJ cZ : ClassId) (o : Nat) (rm : Nat) (n : Nat) (bs : Nat) (aP : Nat) (aH : Nat) (aC : Nat) (aT : Nat) (aB : Nat) (aZ : Nat) (aW : Nat) (aR : Nat) (oR : Nat) (oW : Nat) (x : Nat) (y : Int32) (hn9 : n ≤ 300) (hx8 : x < n) (hx9 : ¬ (0 ≤ y ∧ y < nI n)) : ro_C l yT_fork wT_fork rm_c_fork_nob D vwCl (gT cI cJ cZ) [.ref o, .int (nI x), .int y] [(o, .inr (2, [.int (nI rm), .int (nI n), .int (nI bs), .ref aP, .ref aH, .ref aC, .ref aT, .ref aB, .ref aZ, .ref aW, .ref aR, .ref oR, .ref oW]))] (some (.int (-1))) := by
  refine ro_of (cc := cT_fork) (maxL := 6) (ret := some .int) (by decide) rfl (Nat.le_of_ble_eq_true rfl) ?_
  intro p e s m args below meth c Q ls hx hb hr hml hown hts hlocks hK hP hl hQ
  have hl : lv_has ls 6 [(0, .ref o), (1, .int (nI x)), (2, .int y)] := hl
  have hown : s.vm.findClass RT = some m.cls := hown
  refine lv_aload_n hx hb dT_fork_0 rfl (lv_at hl 0 rfl) ?_
  refine lv_iload_n hx hb dT_fork_1 rfl (lv_at hl 1 rfl) ?_
  refine ro_ki (va_runV (As := [.int (nI x)]) (rest := []) ⟨hx, hb, hml, hown, hts⟩ (c_isBlock_ok l D cI cJ cZ o rm n bs aP aH aC aT aB aZ aW aR oR oW x (by omega) (by omega)) (cwV 1 hts gT_fork_T_isBlock_76 rfl rfl rfl (by decide +kernel) ⟨Nat.le_of_ble_eq_true rfl, Nat.le_of_ble_eq_true rfl⟩) (ro_preV (hP.sub [0] rfl) hK (va_recv hK hP (ci := 2) (q0 := 0) rfl rfl)) rfl rfl hl.1 rfl (lv_room (Nat.le_of_ble_eq_true rfl)) dT_fork_2 ⟨Nat.le_of_ble_eq_true rfl, Nat.le_of_ble_eq_true rfl⟩) ?_
  refine lv_if_eq (tgt := 16) hx hb dT_fork_5 (by decide) (fun c_5 => ?_) (fun c_5 => ?_)
  · skip
    rw [← nI_0] at c_5
    have c_5 : 1 = 0 := n_eq c_5 (by omega) (by omega)
    omega
  · skip
    rw [← nI_0] at c_5
    have c_5 : ¬ 1 = 0 := n_ne c_5
    refine lv_aload_n hx hb dT_fork_8 rfl (lv_at hl 0 rfl) ?_
    refine lv_iload_n hx hb dT_fork_9 rfl (lv_at hl 2 rfl) ?_
    refine ro_ki (va_runV (As := [.int y]) (rest := []) ⟨hx, hb, hml, hown, hts⟩ (c_isBlock_no l D cI cJ cZ o rm n bs aP aH aC aT aB aZ aW aR oR oW y hx9) (cwV 1 hts gT_fork_T_isBlock_76 rfl rfl rfl (by decide +kernel) ⟨Nat.le_of_ble_eq_true rfl, Nat.le_of_ble_eq_true rfl⟩) (ro_preV (hP.sub [0] rfl) hK (va_recv hK hP (ci := 2) (q0 := 0) rfl rfl)) rfl rfl hl.1 rfl (lv_room (Nat.le_of_ble_eq_true rfl)) dT_fork_10 ⟨Nat.le_of_ble_eq_true rfl, Nat.le_of_ble_eq_true rfl⟩) ?_
    refine lv_if_ne (tgt := 18) hx hb dT_fork_13 (by decide) (fun c_13 => ?_) (fun c_13 => ?_)
    · skip
      rw [← nI_0] at c_13
      have c_13 : ¬ 0 = 0 := n_ne c_13
      omega
    · skip
      rw [← nI_0] at c_13
      have c_13 : 0 = 0 := n_eq c_13 (by omega) (by omega)
      refine lv_iconst (v := (-1)) hx hb dT_fork_16 (by decide) ?_
      exact ro_iret hQ hx hb hr hlocks dT_fork_17 rfl

abbrev rm_c_fault : Room := { frames := 4, cells := 0, slots := 0, locals := 90 }
set_option maxRecDepth 100000 in
set_option maxHeartbeats 4000000 in
theorem c_fault (l : Launch) (D : va_G) (cI cJ cZ : ClassId) (o : Nat) (rm : Nat) (n : Nat) (bs : Nat) (aP : Nat) (aH : Nat) (aC : Nat) (aT : Nat) (aB : Nat) (aZ : Nat) (aW : Nat) (aR : Nat) (oR : Nat) (oW : Nat) (b : Int64)  : ro_C l yT_fault wT_fault rm_c_fault D vwCl (gT cI cJ cZ) [.ref o, .long b] [(o, .inr (2, [.int (nI rm), .int (nI n), .int (nI bs), .ref aP, .ref aH, .ref aC, .ref aT, .ref aB, .ref aZ, .ref aW, .ref aR, .ref oR, .ref oW]))] (some (.int (m_fault b))) := by
  refine ro_of (cc := cT_fault) (maxL := 3) (ret := some .int) (by decide) rfl (Nat.le_of_ble_eq_true rfl) ?_
  intro p e s m args below meth c Q ls hx hb hr hml hown hts hlocks hK hP hl hQ
  have hl : lv_has ls 3 [(0, .ref o), (1, .long b)] := hl
  have hown : s.vm.findClass RT = some m.cls := hown
  refine lv_lload_n hx hb dT_fault_0 rfl (lv_at hl 1 rfl) ?_
  refine ro_ki (va_runS (As := [.long b]) (rest := []) ⟨hx, hb, hml, hown, hts⟩ (c_B_faultOf l D cI cJ cZ b) (va_cwS 1 hts gT_fault_B_faultOf_124 rfl rfl rfl (by decide +kernel) ⟨Nat.le_of_ble_eq_true rfl, Nat.le_of_ble_eq_true rfl⟩) (ro_preS (hP.sub [] rfl) hK) rfl rfl hl.1 rfl (lv_room (Nat.le_of_ble_eq_true rfl)) dT_fault_1 ⟨Nat.le_of_ble_eq_true rfl, Nat.le_of_ble_eq_true rfl⟩) ?_
  exact ro_iret hQ hx hb hr hlocks dT_fault_4 rfl

abbrev rm_c_compact : Room := { frames := 2, cells := 0, slots := 0, locals := 61 }
set_option maxRecDepth 100000 in
set_option maxHeartbeats 4000000 in
theorem c_compact (l : Launch) (D : va_G) (cI cJ cZ : ClassId) (o : Nat) (rm : Nat) (n : Nat) (bs : Nat) (aP : Nat) (aH : Nat) (aC : Nat) (aT : Nat) (aB : Nat) (aZ : Nat) (aW : Nat) (aR : Nat) (oR : Nat) (oW : Nat) (a : Int64) (b : Int64) (c0 : Int64) (d : Int64)  : ro_C l yT_compact wT_compact rm_c_compact D vwCl (gT cI cJ cZ) [.ref o, .long a, .long b, .long c0, .long d] [(o, .inr (2, [.int (nI rm), .int (nI n), .int (nI bs), .ref aP, .ref aH, .ref aC, .ref aT, .ref aB, .ref aZ, .ref aW, .ref aR, .ref oR, .ref oW]))] (some (.long (m_short a b c0 d))) := by
  refine ro_of (cc := cT_compact) (maxL := 9) (ret := some .long) (by decide) rfl (Nat.le_of_ble_eq_true rfl) ?_
  intro p e s m args below meth c Q ls hx hb hr hml hown hts hlocks hK hP hl hQ
  have hl : lv_has ls 9 [(0, .ref o), (1, .long a), (3, .long b), (5, .long c0), (7, .long d)] := hl
  have hown : s.vm.findClass RT = some m.cls := hown
  refine lv_lload_n hx hb dT_compact_0 rfl (lv_at hl 1 rfl) ?_
  refine lv_lload_n hx hb dT_compact_1 rfl (lv_at hl 2 rfl) ?_
  refine lv_lload hx hb dT_compact_2 (lv_at hl 3 rfl) ?_
  refine lv_lload hx hb dT_compact_4 (lv_at hl 4 rfl) ?_
  refine ro_kl (va_runS (As := [.long a, .long b, .long c0, .long d]) (rest := []) ⟨hx, hb, hml, hown, hts⟩ (c_B_shorten l D cI cJ cZ a b c0 d) (va_cwS 4 hts gT_compact_B_shorten_132 rfl rfl rfl (by decide +kernel) ⟨Nat.le_of_ble_eq_true rfl, Nat.le_of_ble_eq_true rfl⟩) (ro_preS (hP.sub [] rfl) hK) rfl rfl hl.1 rfl (lv_room (Nat.le_of_ble_eq_true rfl)) dT_compact_6 ⟨Nat.le_of_ble_eq_true rfl, Nat.le_of_ble_eq_true rfl⟩) ?_
  exact ro_lret hQ hx hb hr hlocks dT_compact_9 rfl

abbrev rm_c_target : Room := { frames := 4, cells := 0, slots := 0, locals := 90 }
set_option maxRecDepth 100000 in
set_option maxHeartbeats 4000000 in
theorem c_target (l : Launch) (D : va_G) (cI cJ cZ : ClassId) (o : Nat) (rm : Nat) (n : Nat) (bs : Nat) (aP : Nat) (aH : Nat) (aC : Nat) (aT : Nat) (aB : Nat) (aZ : Nat) (aW : Nat) (aR : Nat) (oR : Nat) (oW : Nat) (b : Int64) (k : Int32)  : ro_C l yT_target wT_target rm_c_target D vwCl (gT cI cJ cZ) [.ref o, .long b, .int k] [(o, .inr (2, [.int (nI rm), .int (nI n), .int (nI bs), .ref aP, .ref aH, .ref aC, .ref aT, .ref aB, .ref aZ, .ref aW, .ref aR, .ref oR, .ref oW]))] (some (.long (m_target b k))) := by
  refine ro_of (cc := cT_target) (maxL := 6) (ret := some .long) (by decide) rfl (Nat.le_of_ble_eq_true rfl) ?_
  intro p e s m args below meth c Q ls hx hb hr hml hown hts hlocks hK hP hl hQ
  have hl : lv_has ls 6 [(0, .ref o), (1, .long b), (3, .int k)] := hl
  have hown : s.vm.findClass RT = some m.cls := hown
  refine lv_lload_n hx hb dT_target_0 rfl (lv_at hl 1 rfl) ?_
  refine ro_ki (va_runS (As := [.long b]) (rest := []) ⟨hx, hb, hml, hown, hts⟩ (c_B_faultOf l D cI cJ cZ b) (va_cwS 1 hts gT_target_B_faultOf_124 rfl rfl rfl (by decide +kernel) ⟨Nat.le_of_ble_eq_true rfl, Nat.le_of_ble_eq_true rfl⟩) (ro_preS (hP.sub [] rfl) hK) rfl rfl hl.1 rfl (lv_room (Nat.le_of_ble_eq_true rfl)) dT_target_1 ⟨Nat.le_of_ble_eq_true rfl, Nat.le_of_ble_eq_true rfl⟩) ?_
  refine lv_istore (lv' := [(4, .int (m_fault b)), (0, .ref o), (1, .long b), (3, .int k)]) hx hb dT_target_4 hl (by decide) rfl (fun ls hl => ?_)
  refine lv_iload hx hb dT_target_6 (lv_at hl 0 rfl) ?_
  refine lv_if_eq (tgt := 17) hx hb dT_target_8 (by decide) (fun c_8 => ?_) (fun c_8 => ?_)
  · skip
    refine lv_iconst (v := nI 1) hx hb dT_target_17 (by decide) ?_
    refine lv_goto (tgt := 22) hx hb dT_target_18 (by decide) ?_
    refine lv_istore (lv' := [(5, .int (nI 1)), (4, .int (m_fault b)), (0, .ref o), (1, .long b), (3, .int k)]) hx hb dT_target_22 hl (by decide) rfl (fun ls hl => ?_)
    refine lv_iload hx hb dT_target_24 (lv_at hl 0 rfl) ?_
    refine lv_if_eq (tgt := 46) hx hb dT_target_26 (by decide) (fun c_26 => ?_) (fun c_26 => ?_)
    · skip
      rw [← nI_0] at c_26
      have c_26 : 1 = 0 := n_eq c_26 (by omega) (by omega)
      omega
    · skip
      rw [← nI_0] at c_26
      have c_26 : ¬ 1 = 0 := n_ne c_26
      refine lv_iload_n hx hb dT_target_29 rfl (lv_at hl 4 rfl) ?_
      refine lv_if_lt (tgt := 46) hx hb dT_target_30 (by decide) (fun c_30 => ?_) (fun c_30 => ?_)
      · skip
        refine lv_lconst (v := 0) hx hb dT_target_46 (by decide) ?_
        exact ro_lret hQ hx hb hr hlocks dT_target_47 (by simp [m_target, c_8, c_26, c_30])
      · skip
        refine lv_iload_n hx hb dT_target_33 rfl (lv_at hl 4 rfl) ?_
        refine lv_iconst (v := nI 4) hx hb dT_target_34 (by decide) ?_
        refine lv_icmp_ge (tgt := 46) hx hb dT_target_35 (by decide) (fun c_35 => ?_) (fun c_35 => ?_)
        · skip
          refine lv_lconst (v := 0) hx hb dT_target_46 (by decide) ?_
          exact ro_lret hQ hx hb hr hlocks dT_target_47 (by simp [m_target, c_8, c_26, c_30, c_35])
        · skip
          refine lv_lload_n hx hb dT_target_38 rfl (lv_at hl 3 rfl) ?_
          refine lv_iload_n hx hb dT_target_39 rfl (lv_at hl 4 rfl) ?_
          refine ro_kl (va_runS (As := [.long b, .int k]) (rest := []) ⟨hx, hb, hml, hown, hts⟩ (c_B_targetPart l D cI cJ cZ b k) (va_cwS 2 hts gT_target_B_targetPart_128 rfl rfl rfl (by decide +kernel) ⟨Nat.le_of_ble_eq_true rfl, Nat.le_of_ble_eq_true rfl⟩) (ro_preS (hP.sub [] rfl) hK) rfl rfl hl.1 rfl (lv_room (Nat.le_of_ble_eq_true rfl)) dT_target_40 ⟨Nat.le_of_ble_eq_true rfl, Nat.le_of_ble_eq_true rfl⟩) ?_
          refine lv_goto (tgt := 47) hx hb dT_target_43 (by decide) ?_
          exact ro_lret hQ hx hb hr hlocks dT_target_47 (by simp [m_target, c_8, c_26, c_30, c_35])
  · skip
    refine lv_iload hx hb dT_target_11 (lv_at hl 0 rfl) ?_
    refine lv_iconst (v := nI 4) hx hb dT_target_13 (by decide) ?_
    refine lv_icmp_ne (tgt := 21) hx hb dT_target_14 (by decide) (fun c_14 => ?_) (fun c_14 => ?_)
    · skip
      refine lv_iconst (v := nI 0) hx hb dT_target_21 (by decide) ?_
      refine lv_istore (lv' := [(5, .int (nI 0)), (4, .int (m_fault b)), (0, .ref o), (1, .long b), (3, .int k)]) hx hb dT_target_22 hl (by decide) rfl (fun ls hl => ?_)
      refine lv_iload hx hb dT_target_24 (lv_at hl 0 rfl) ?_
      refine lv_if_eq (tgt := 46) hx hb dT_target_26 (by decide) (fun c_26 => ?_) (fun c_26 => ?_)
      · skip
        rw [← nI_0] at c_26
        have c_26 : 0 = 0 := n_eq c_26 (by omega) (by omega)
        refine lv_lconst (v := 0) hx hb dT_target_46 (by decide) ?_
        exact ro_lret hQ hx hb hr hlocks dT_target_47 (by simp [m_target, c_8, c_14, c_26])
      · skip
        rw [← nI_0] at c_26
        have c_26 : ¬ 0 = 0 := n_ne c_26
        omega
    · skip
      refine lv_iconst (v := nI 1) hx hb dT_target_17 (by decide) ?_
      refine lv_goto (tgt := 22) hx hb dT_target_18 (by decide) ?_
      refine lv_istore (lv' := [(5, .int (nI 1)), (4, .int (m_fault b)), (0, .ref o), (1, .long b), (3, .int k)]) hx hb dT_target_22 hl (by decide) rfl (fun ls hl => ?_)
      refine lv_iload hx hb dT_target_24 (lv_at hl 0 rfl) ?_
      refine lv_if_eq (tgt := 46) hx hb dT_target_26 (by decide) (fun c_26 => ?_) (fun c_26 => ?_)
      · skip
        rw [← nI_0] at c_26
        have c_26 : 1 = 0 := n_eq c_26 (by omega) (by omega)
        omega
      · skip
        rw [← nI_0] at c_26
        have c_26 : ¬ 1 = 0 := n_ne c_26
        refine lv_iload_n hx hb dT_target_29 rfl (lv_at hl 4 rfl) ?_
        refine lv_if_lt (tgt := 46) hx hb dT_target_30 (by decide) (fun c_30 => ?_) (fun c_30 => ?_)
        · skip
          refine lv_lconst (v := 0) hx hb dT_target_46 (by decide) ?_
          exact ro_lret hQ hx hb hr hlocks dT_target_47 (by simp [m_target, c_8, c_14, c_26, c_30])
        · skip
          refine lv_iload_n hx hb dT_target_33 rfl (lv_at hl 4 rfl) ?_
          refine lv_iconst (v := nI 4) hx hb dT_target_34 (by decide) ?_
          refine lv_icmp_ge (tgt := 46) hx hb dT_target_35 (by decide) (fun c_35 => ?_) (fun c_35 => ?_)
          · skip
            refine lv_lconst (v := 0) hx hb dT_target_46 (by decide) ?_
            exact ro_lret hQ hx hb hr hlocks dT_target_47 (by simp [m_target, c_8, c_14, c_26, c_30, c_35])
          · skip
            refine lv_lload_n hx hb dT_target_38 rfl (lv_at hl 3 rfl) ?_
            refine lv_iload_n hx hb dT_target_39 rfl (lv_at hl 4 rfl) ?_
            refine ro_kl (va_runS (As := [.long b, .int k]) (rest := []) ⟨hx, hb, hml, hown, hts⟩ (c_B_targetPart l D cI cJ cZ b k) (va_cwS 2 hts gT_target_B_targetPart_128 rfl rfl rfl (by decide +kernel) ⟨Nat.le_of_ble_eq_true rfl, Nat.le_of_ble_eq_true rfl⟩) (ro_preS (hP.sub [] rfl) hK) rfl rfl hl.1 rfl (lv_room (Nat.le_of_ble_eq_true rfl)) dT_target_40 ⟨Nat.le_of_ble_eq_true rfl, Nat.le_of_ble_eq_true rfl⟩) ?_
            refine lv_goto (tgt := 47) hx hb dT_target_43 (by decide) ?_
            exact ro_lret hQ hx hb hr hlocks dT_target_47 (by simp [m_target, c_8, c_14, c_26, c_30, c_35])

abbrev rm_c_findBest : Room := { frames := 1, cells := 0, slots := 0, locals := 27 }
set_option maxRecDepth 100000 in
set_option maxHeartbeats 4000000 in
theorem c_findBest (l : Launch) (D : va_G) (cI cJ cZ : ClassId) (o : Nat) (rm : Nat) (n : Nat) (bs : Nat) (aP : Nat) (aH : Nat) (aC : Nat) (aT : Nat) (aB : Nat) (aZ : Nat) (aW : Nat) (aR : Nat) (oR : Nat) (oW : Nat) (Zb : Nat → Nat) (Wk : Nat → Int64) (hn3 : n ≤ rm) (hr3 : rm ≤ 300) (hn1 : 1 ≤ n) (hz9 : ∀ x : Nat, Zb x < 2) : ro_C l yT_findBest wT_findBest rm_c_findBest D vwCl (gT cI cJ cZ) [.ref o] [(o, .inr (2, [.int (nI rm), .int (nI n), .int (nI bs), .ref aP, .ref aH, .ref aC, .ref aT, .ref aB, .ref aZ, .ref aW, .ref aR, .ref oR, .ref oW])), (aZ, .inl (cZ, rm, .inl (nF Zb))), (aW, .inl (cJ, rm * 8, .inr (.inl Wk)))] (some (.int (nI (m_best Zb Wk (n - 1) 1 0)))) := by
  refine ro_of (cc := cT_findBest) (maxL := 3) (ret := some .int) (by decide) rfl (Nat.le_of_ble_eq_true rfl) ?_
  intro p e s m args below meth c Q ls hx hb hr hml hown hts hlocks hK hP hl hQ
  have hl : lv_has ls 3 [(0, .ref o)] := hl
  have hown : s.vm.findClass RT = some m.cls := hown
  refine lv_iconst (v := nI 0) hx hb dT_findBest_0 (by decide) ?_
  refine lv_istore_n (lv' := [(1, .int (nI 0)), (0, .ref o)]) hx hb dT_findBest_1 rfl hl (by decide) rfl (fun ls hl => ?_)
  refine lv_iconst (v := nI 1) hx hb dT_findBest_2 (by decide) ?_
  refine lv_istore_n (lv' := [(2, .int (nI 1)), (1, .int (nI 0)), (0, .ref o)]) hx hb dT_findBest_3 rfl hl (by decide) rfl (fun ls hl => ?_)
  have lp_4 : ∀ (n_4 : Nat) (d i x : Nat), (d < n_4) → (i + d = n) → (x < n) → (m_best Zb Wk d i x = m_best Zb Wk (n - 1) 1 0) → ∀ (ls : Array Slot), lv_has ls 3 [(0, .ref o), (1, .int (nI x)), (2, .int (nI i))] → W p l e rm_c_findBest s m args below meth c s.heap [] 0 0 Q (F0 m 4 ls []) := by
    intro n_4
    induction n_4 with
    | zero => intro d i x hn hd hx9 hg ls hl; exact absurd hn (by omega)
    | succ n_4 ih_4 =>
      intro d i x hn hd hx9 hg ls hl
      refine lv_iload_n hx hb dT_findBest_4 rfl (lv_at hl 2 rfl) ?_
      refine lv_aload_n hx hb dT_findBest_5 rfl (lv_at hl 0 rfl) ?_
      refine va_get (D := D) (ci := 2) (v := .int (nI n)) (C := RT) (T := TT) (N := 13) hx hb hts iT_findBest_T hown hK hP 0 rfl rfl 1 (by decide) (hts (.fieldLink RT 70 "TreeDesk" "count" "I") (by decide +kernel)) (fun _ h9 => h9) rfl dT_findBest_6 ?_
      refine lv_icmp_ge (tgt := 38) hx hb dT_findBest_9 (by decide) (fun c_9 => ?_) (fun c_9 => ?_)
      · skip
        have c_9 : n ≤ i := n_le c_9 (by omega) (by omega)
        have hd0 : d = 0 := by omega
        subst hd0
        refine lv_iload_n hx hb dT_findBest_38 rfl (lv_at hl 1 rfl) ?_
        exact ro_iret hQ hx hb hr hlocks dT_findBest_39 (by rw [← hg]; rfl)
      · skip
        have c_9 : i < n := n_nle c_9 (by omega) (by omega)
        obtain ⟨d, rfl⟩ : ∃ d' : Nat, d = d' + 1 := ⟨d - 1, by omega⟩
        have hzi := hz9 i
        refine lv_aload_n hx hb dT_findBest_12 rfl (lv_at hl 0 rfl) ?_
        refine va_get (D := D) (ci := 2) (v := .ref aZ) (C := RT) (T := TT) (N := 13) hx hb hts iT_findBest_T hown hK hP 0 rfl rfl 8 (by decide) (hts (.fieldLink RT 30 "TreeDesk" "bad" "[Z") (by decide +kernel)) (fun _ h9 => h9) rfl dT_findBest_13 ?_
        refine lv_iload_n hx hb dT_findBest_16 rfl (lv_at hl 2 rfl) ?_
        refine ar_zld (j := i) hx hb hK hP 1 2 rfl rfl dT_findBest_17 (by omega) (by omega) ?_
        refine tp_i (y := nI (Zb i)) rfl ?_
        refine lv_if_ne (tgt := 32) hx hb dT_findBest_18 (by decide) (fun c_18 => ?_) (fun c_18 => ?_)
        · skip
          rw [← nI_0] at c_18
          have c_18 : ¬ (Zb i) = 0 := n_ne c_18
          refine lv_iinc (v := nI (i + 1)) (lv' := [(2, .int (nI (i + 1))), (0, .ref o), (1, .int (nI x))]) hx hb dT_findBest_32 hl (k := 2) rfl (nI_add _ 1) (by decide) rfl (fun ls hl => ?_)
          refine lv_goto (tgt := 4) hx hb dT_findBest_35 (by decide) ?_
          exact ih_4 d (i + 1) x (by omega) (by omega) (by omega) (by rw [← hg, m_best, if_neg c_18]) ls (lv_sub hl [1, 2, 0] rfl)
        · skip
          rw [← nI_0] at c_18
          have c_18 : (Zb i) = 0 := n_eq c_18 (by omega) (by omega)
          refine lv_aload_n hx hb dT_findBest_21 rfl (lv_at hl 0 rfl) ?_
          refine lv_iload_n hx hb dT_findBest_22 rfl (lv_at hl 2 rfl) ?_
          refine lv_iload_n hx hb dT_findBest_23 rfl (lv_at hl 1 rfl) ?_
          refine ro_ki (va_runV (As := [.int (nI i), .int (nI x)]) (rest := []) ⟨hx, hb, hml, hown, hts⟩ (c_compareWorks l D cI cJ cZ o rm n bs aP aH aC aT aB aZ aW aR oR oW Wk i x (by omega) (by omega) (by omega)) (cwV 2 hts gT_findBest_T_compareWorks_116 rfl rfl rfl (by decide +kernel) ⟨Nat.le_of_ble_eq_true rfl, Nat.le_of_ble_eq_true rfl⟩) (ro_preV (hP.sub [0, 2] rfl) hK (va_recv hK hP (ci := 2) (q0 := 0) rfl rfl)) rfl rfl hl.1 rfl (lv_room (Nat.le_of_ble_eq_true rfl)) dT_findBest_24 ⟨Nat.le_of_ble_eq_true rfl, Nat.le_of_ble_eq_true rfl⟩) ?_
          refine lv_if_le (tgt := 32) hx hb dT_findBest_27 (by decide) (fun c_27 => ?_) (fun c_27 => ?_)
          · skip
            refine lv_iinc (v := nI (i + 1)) (lv' := [(2, .int (nI (i + 1))), (0, .ref o), (1, .int (nI x))]) hx hb dT_findBest_32 hl (k := 2) rfl (nI_add _ 1) (by decide) rfl (fun ls hl => ?_)
            refine lv_goto (tgt := 4) hx hb dT_findBest_35 (by decide) ?_
            exact ih_4 d (i + 1) x (by omega) (by omega) (by omega) (by rw [← hg, m_best, if_pos c_18, if_pos c_27]) ls (lv_sub hl [1, 2, 0] rfl)
          · skip
            refine lv_iload_n hx hb dT_findBest_30 rfl (lv_at hl 2 rfl) ?_
            refine lv_istore_n (lv' := [(1, .int (nI i)), (0, .ref o), (2, .int (nI i))]) hx hb dT_findBest_31 rfl hl (by decide) rfl (fun ls hl => ?_)
            refine lv_iinc (v := nI (i + 1)) (lv' := [(2, .int (nI (i + 1))), (1, .int (nI i)), (0, .ref o)]) hx hb dT_findBest_32 hl (k := 2) rfl (nI_add _ 1) (by decide) rfl (fun ls hl => ?_)
            refine lv_goto (tgt := 4) hx hb dT_findBest_35 (by decide) ?_
            exact ih_4 d (i + 1) i (by omega) (by omega) (by omega) (by rw [← hg, m_best, if_pos c_18, if_neg c_27]) ls (lv_sub hl [2, 1, 0] rfl)
  exact lp_4 (n + 1) (n - 1) 1 0 (by omega) (by omega) (by omega) rfl ls (lv_sub hl [2, 1, 0] rfl)

abbrev rm_c_row_ok : Room := { frames := 1, cells := 0, slots := 0, locals := 24 }
set_option maxRecDepth 100000 in
set_option maxHeartbeats 4000000 in
theorem c_row_ok (l : Launch) (D : va_G) (cI cJ cZ : ClassId) (o : Nat) (rm : Nat) (n : Nat) (bs : Nat) (aP : Nat) (aH : Nat) (aC : Nat) (aT : Nat) (aB : Nat) (aZ : Nat) (aW : Nat) (aR : Nat) (oR : Nat) (oW : Nat) (P : Nat → Nat) (Hh : Nat → Nat) (j : Nat) (k : Nat) (hn3 : n ≤ rm) (hr3 : rm ≤ 300) (hj : j < n) (hHj : Hh j < 300) (hk : k ≤ Hh j) (hpar : ∀ x : Nat, 0 < x → x < n → P x < x) : ro_C l yT_row wT_row rm_c_row_ok D vwCl (gT cI cJ cZ) [.ref o, .int (nI j), .int (nI k)] [(o, .inr (2, [.int (nI rm), .int (nI n), .int (nI bs), .ref aP, .ref aH, .ref aC, .ref aT, .ref aB, .ref aZ, .ref aW, .ref aR, .ref oR, .ref oW])), (aP, .inl (cI, rm, .inl (pF P))), (aH, .inl (cI, rm, .inl (nF Hh)))] (some (.int (m_rowR P Hh j (m_row k (Hh j) 1 1)))) := by
  refine ro_of (cc := cT_row) (maxL := 6) (ret := some .int) (by decide) rfl (Nat.le_of_ble_eq_true rfl) ?_
  intro p e s m args below meth c Q ls hx hb hr hml hown hts hlocks hK hP hl hQ
  have hl : lv_has ls 6 [(0, .ref o), (1, .int (nI j)), (2, .int (nI k))] := hl
  have hown : s.vm.findClass RT = some m.cls := hown
  refine lv_aload_n hx hb dT_row_0 rfl (lv_at hl 0 rfl) ?_
  refine lv_iload_n hx hb dT_row_1 rfl (lv_at hl 1 rfl) ?_
  refine ro_ki (va_runV (As := [.int (nI j)]) (rest := []) ⟨hx, hb, hml, hown, hts⟩ (c_isBlock_ok l D cI cJ cZ o rm n bs aP aH aC aT aB aZ aW aR oR oW j (by omega) (by omega)) (cwV 1 hts gT_row_T_isBlock_76 rfl rfl rfl (by decide +kernel) ⟨Nat.le_of_ble_eq_true rfl, Nat.le_of_ble_eq_true rfl⟩) (ro_preV (hP.sub [0] rfl) hK (va_recv hK hP (ci := 2) (q0 := 0) rfl rfl)) rfl rfl hl.1 rfl (lv_room (Nat.le_of_ble_eq_true rfl)) dT_row_2 ⟨Nat.le_of_ble_eq_true rfl, Nat.le_of_ble_eq_true rfl⟩) ?_
  refine lv_if_eq (tgt := 22) hx hb dT_row_5 (by decide) (fun c_5 => ?_) (fun c_5 => ?_)
  · skip
    rw [← nI_0] at c_5
    have c_5 : 1 = 0 := n_eq c_5 (by omega) (by omega)
    omega
  · skip
    rw [← nI_0] at c_5
    have c_5 : ¬ 1 = 0 := n_ne c_5
    refine lv_iload_n hx hb dT_row_8 rfl (lv_at hl 2 rfl) ?_
    refine lv_if_lt (tgt := 22) hx hb dT_row_9 (by decide) (fun c_9 => ?_) (fun c_9 => ?_)
    · skip
      rw [← nI_0] at c_9
      have c_9 : k < 0 := n_lt c_9 (by omega) (by omega)
      omega
    · skip
      rw [← nI_0] at c_9
      have c_9 : 0 ≤ k := n_nlt c_9 (by omega) (by omega)
      refine lv_iload_n hx hb dT_row_12 rfl (lv_at hl 2 rfl) ?_
      refine lv_aload_n hx hb dT_row_13 rfl (lv_at hl 0 rfl) ?_
      refine va_get (D := D) (ci := 2) (v := .ref aH) (C := RT) (T := TT) (N := 13) hx hb hts iT_row_T hown hK hP 0 rfl rfl 4 (by decide) (hts (.fieldLink RT 17 "TreeDesk" "heights" "[I") (by decide +kernel)) (fun _ h9 => h9) rfl dT_row_14 ?_
      refine lv_iload_n hx hb dT_row_17 rfl (lv_at hl 1 rfl) ?_
      refine ar_ild (j := j) hx hb hK hP 2 0 rfl rfl dT_row_18 (by omega) (by omega) ?_
      refine tp_i (y := nI (Hh j)) rfl ?_
      refine lv_icmp_le (tgt := 24) hx hb dT_row_19 (by decide) (fun c_19 => ?_) (fun c_19 => ?_)
      · skip
        have c_19 : k ≤ (Hh j) := n_le c_19 (by omega) (by omega)
        refine lv_aload_n hx hb dT_row_24 rfl (lv_at hl 0 rfl) ?_
        refine va_get (D := D) (ci := 2) (v := .ref aH) (C := RT) (T := TT) (N := 13) hx hb hts iT_row_T hown hK hP 0 rfl rfl 4 (by decide) (hts (.fieldLink RT 17 "TreeDesk" "heights" "[I") (by decide +kernel)) (fun _ h9 => h9) rfl dT_row_25 ?_
        refine lv_iload_n hx hb dT_row_28 rfl (lv_at hl 1 rfl) ?_
        refine ar_ild (j := j) hx hb hK hP 2 0 rfl rfl dT_row_29 (by omega) (by omega) ?_
        refine tp_i (y := nI (Hh j)) rfl ?_
        refine lv_istore_n (lv' := [(3, .int (nI (Hh j))), (0, .ref o), (1, .int (nI j)), (2, .int (nI k))]) hx hb dT_row_30 rfl hl (by decide) rfl (fun ls hl => ?_)
        refine lv_iconst (v := nI 1) hx hb dT_row_31 (by decide) ?_
        refine lv_istore (lv' := [(4, .int (nI 1)), (3, .int (nI (Hh j))), (0, .ref o), (1, .int (nI j)), (2, .int (nI k))]) hx hb dT_row_32 hl (by decide) rfl (fun ls hl => ?_)
        refine lv_iconst (v := nI 1) hx hb dT_row_34 (by decide) ?_
        refine lv_istore (lv' := [(5, .int (nI 1)), (4, .int (nI 1)), (3, .int (nI (Hh j))), (0, .ref o), (1, .int (nI j)), (2, .int (nI k))]) hx hb dT_row_35 hl (by decide) rfl (fun ls hl => ?_)
        have lp_37 : ∀ (n_37 : Nat) (d hh sp i : Nat), (d < n_37) → (i + d = k + 1) → (1 ≤ i) → (hh < 300) → (hh ≤ Hh j) → (0 < hh → sp < 300) → (m_row d hh sp i = m_row k (Hh j) 1 1) → ∀ (ls : Array Slot), lv_has ls 6 [(0, .ref o), (1, .int (nI j)), (2, .int (nI k)), (3, .int (nI hh)), (4, .int (nI sp)), (5, .int (nI i))] → W p l e rm_c_row_ok s m args below meth c s.heap [] 0 0 Q (F0 m 37 ls []) := by
          intro n_37
          induction n_37 with
          | zero => intro d hh sp i hn hd hi1 hh3 hhj hsp hg ls hl; exact absurd hn (by omega)
          | succ n_37 ih_37 =>
            intro d hh sp i hn hd hi1 hh3 hhj hsp hg ls hl
            refine lv_iload hx hb dT_row_37 (lv_at hl 5 rfl) ?_
            refine lv_iload_n hx hb dT_row_39 rfl (lv_at hl 2 rfl) ?_
            refine lv_icmp_gt (tgt := 77) hx hb dT_row_40 (by decide) (fun c_40 => ?_) (fun c_40 => ?_)
            · skip
              have c_40 : k < i := n_lt c_40 (by omega) (by omega)
              have hd0 : d = 0 := by omega
              subst hd0
              refine lv_aload_n hx hb dT_row_77 rfl (lv_at hl 0 rfl) ?_
              refine lv_iload_n hx hb dT_row_78 rfl (lv_at hl 1 rfl) ?_
              refine lv_iload_n hx hb dT_row_79 rfl (lv_at hl 3 rfl) ?_
              refine ro_ki (va_runV (As := [.int (nI j), .int (nI hh)]) (rest := []) ⟨hx, hb, hml, hown, hts⟩ (c_ancestor l D cI cJ cZ o rm n bs aP aH aC aT aB aZ aW aR oR oW P Hh j hh (by omega) (by omega) (by omega) (by omega) (by omega) hpar) (cwV 2 hts gT_row_T_ancestor_101 rfl rfl rfl (by decide +kernel) ⟨Nat.le_of_ble_eq_true rfl, Nat.le_of_ble_eq_true rfl⟩) (ro_preV (hP.sub [0, 1, 2] rfl) hK (va_recv hK hP (ci := 2) (q0 := 0) rfl rfl)) rfl rfl hl.1 rfl (lv_room (Nat.le_of_ble_eq_true rfl)) dT_row_80 ⟨Nat.le_of_ble_eq_true rfl, Nat.le_of_ble_eq_true rfl⟩) ?_
              exact ro_iret hQ hx hb hr hlocks dT_row_83 (by rw [← hg]; rfl)
            · skip
              have c_40 : i ≤ k := n_nlt c_40 (by omega) (by omega)
              obtain ⟨d, rfl⟩ : ∃ d' : Nat, d = d' + 1 := ⟨d - 1, by omega⟩
              refine lv_iload_n hx hb dT_row_43 rfl (lv_at hl 3 rfl) ?_
              refine lv_if_ne (tgt := 49) hx hb dT_row_44 (by decide) (fun c_44 => ?_) (fun c_44 => ?_)
              · skip
                rw [← nI_0] at c_44
                have c_44 : ¬ hh = 0 := n_ne c_44
                have c_44 : ¬ hh = 0 := c_44
                have hsp := hsp (by omega)
                refine lv_iload hx hb dT_row_49 (lv_at hl 5 rfl) ?_
                refine lv_bipush (v := nI 9) hx hb dT_row_51 (by decide) ?_
                refine lv_icmp_le (tgt := 62) hx hb dT_row_53 (by decide) (fun c_53 => ?_) (fun c_53 => ?_)
                · skip
                  have c_53 : i ≤ 9 := n_le c_53 (by omega) (by omega)
                  refine lv_iconst (v := nI 0) hx hb dT_row_62 (by decide) ?_
                  refine lv_iload_n hx hb dT_row_63 rfl (lv_at hl 3 rfl) ?_
                  refine lv_iload hx hb dT_row_64 (lv_at hl 4 rfl) ?_
                  refine lv_isub hx hb dT_row_66 ?_
                  refine va_mmax hx hb (hml.trans hl.1.symm) hown (hts (.methodLink RT 119 Lib.Math.max.name) (by decide +kernel)) (hts (.static Lib.Math.max.name) (by decide +kernel)) (hts (.initialized "java/lang/Math") (by decide +kernel)) (hts (.code Lib.Math.max.name Lib.Math.max.code 2 (some .int)) (by decide +kernel)) (Nat.le_of_ble_eq_true rfl) (Nat.le_of_ble_eq_true rfl) (Nat.le_of_ble_eq_true rfl) (Nat.le_of_ble_eq_true rfl) dT_row_67 ?_
                  refine tp_i (y := nI (hh - sp)) (mx_s (by omega) (by omega)) ?_
                  refine lv_istore_n (lv' := [(3, .int (nI (hh - sp))), (0, .ref o), (1, .int (nI j)), (2, .int (nI k)), (4, .int (nI sp)), (5, .int (nI i))]) hx hb dT_row_70 rfl hl (by decide) rfl (fun ls hl => ?_)
                  refine lv_iinc (v := nI (i + 1)) (lv' := [(5, .int (nI (i + 1))), (3, .int (nI (hh - sp))), (0, .ref o), (1, .int (nI j)), (2, .int (nI k)), (4, .int (nI sp))]) hx hb dT_row_71 hl (k := 5) rfl (nI_add _ 1) (by decide) rfl (fun ls hl => ?_)
                  refine lv_goto (tgt := 37) hx hb dT_row_74 (by decide) ?_
                  exact ih_37 d (hh - sp) sp (i + 1) (by omega) (by omega) (by omega) (by omega) (by omega) (by omega) (by rw [← hg, m_row, if_neg c_44, if_pos (by omega)]) ls (lv_sub hl [2, 3, 4, 1, 5, 0] rfl)
                · skip
                  have c_53 : 9 < i := n_nle c_53 (by omega) (by omega)
                  refine lv_iload hx hb dT_row_56 (lv_at hl 4 rfl) ?_
                  refine lv_iconst (v := nI 2) hx hb dT_row_58 (by decide) ?_
                  refine lv_imul hx hb dT_row_59 ?_
                  refine tp_i (y := nI (sp * 2)) (pk_mul _ _) ?_
                  refine lv_istore (lv' := [(4, .int (nI (sp * 2))), (0, .ref o), (1, .int (nI j)), (2, .int (nI k)), (3, .int (nI hh)), (5, .int (nI i))]) hx hb dT_row_60 hl (by decide) rfl (fun ls hl => ?_)
                  refine lv_iconst (v := nI 0) hx hb dT_row_62 (by decide) ?_
                  refine lv_iload_n hx hb dT_row_63 rfl (lv_at hl 4 rfl) ?_
                  refine lv_iload hx hb dT_row_64 (lv_at hl 0 rfl) ?_
                  refine lv_isub hx hb dT_row_66 ?_
                  refine va_mmax hx hb (hml.trans hl.1.symm) hown (hts (.methodLink RT 119 Lib.Math.max.name) (by decide +kernel)) (hts (.static Lib.Math.max.name) (by decide +kernel)) (hts (.initialized "java/lang/Math") (by decide +kernel)) (hts (.code Lib.Math.max.name Lib.Math.max.code 2 (some .int)) (by decide +kernel)) (Nat.le_of_ble_eq_true rfl) (Nat.le_of_ble_eq_true rfl) (Nat.le_of_ble_eq_true rfl) (Nat.le_of_ble_eq_true rfl) dT_row_67 ?_
                  refine tp_i (y := nI (hh - (sp * 2))) (mx_s (by omega) (by omega)) ?_
                  refine lv_istore_n (lv' := [(3, .int (nI (hh - (sp * 2)))), (4, .int (nI (sp * 2))), (0, .ref o), (1, .int (nI j)), (2, .int (nI k)), (5, .int (nI i))]) hx hb dT_row_70 rfl hl (by decide) rfl (fun ls hl => ?_)
                  refine lv_iinc (v := nI (i + 1)) (lv' := [(5, .int (nI (i + 1))), (3, .int (nI (hh - (sp * 2)))), (4, .int (nI (sp * 2))), (0, .ref o), (1, .int (nI j)), (2, .int (nI k))]) hx hb dT_row_71 hl (k := 5) rfl (nI_add _ 1) (by decide) rfl (fun ls hl => ?_)
                  refine lv_goto (tgt := 37) hx hb dT_row_74 (by decide) ?_
                  exact ih_37 d (hh - sp * 2) (sp * 2) (i + 1) (by omega) (by omega) (by omega) (by omega) (by omega) (by omega) (by rw [← hg, m_row, if_neg c_44, if_neg (by omega)]) ls (lv_sub hl [3, 4, 5, 1, 2, 0] rfl)
              · skip
                rw [← nI_0] at c_44
                have c_44 : hh = 0 := n_eq c_44 (by omega) (by omega)
                refine lv_iconst (v := (-1)) hx hb dT_row_47 (by decide) ?_
                exact ro_iret hQ hx hb hr hlocks dT_row_48 (by rw [← hg, m_row, if_pos c_44]; rfl)
        exact lp_37 (k + 1) k (Hh j) 1 1 (by omega) (by omega) (by omega) (by omega) (by omega) (by omega) rfl ls (lv_sub hl [3, 4, 5, 2, 1, 0] rfl)
      · skip
        have c_19 : (Hh j) < k := n_nle c_19 (by omega) (by omega)
        omega

abbrev rm_c_row_nob : Room := { frames := 1, cells := 0, slots := 0, locals := 24 }
set_option maxRecDepth 100000 in
set_option maxHeartbeats 4000000 in
theorem c_row_nob (l : Launch) (D : va_G) (cI cJ cZ : ClassId) (o : Nat) (rm : Nat) (n : Nat) (bs : Nat) (aP : Nat) (aH : Nat) (aC : Nat) (aT : Nat) (aB : Nat) (aZ : Nat) (aW : Nat) (aR : Nat) (oR : Nat) (oW : Nat) (x : Int32) (h : Int32) (hx9 : ¬ (0 ≤ x ∧ x < nI n)) : ro_C l yT_row wT_row rm_c_row_nob D vwCl (gT cI cJ cZ) [.ref o, .int x, .int h] [(o, .inr (2, [.int (nI rm), .int (nI n), .int (nI bs), .ref aP, .ref aH, .ref aC, .ref aT, .ref aB, .ref aZ, .ref aW, .ref aR, .ref oR, .ref oW]))] (some (.int (-1))) := by
  refine ro_of (cc := cT_row) (maxL := 6) (ret := some .int) (by decide) rfl (Nat.le_of_ble_eq_true rfl) ?_
  intro p e s m args below meth c Q ls hx hb hr hml hown hts hlocks hK hP hl hQ
  have hl : lv_has ls 6 [(0, .ref o), (1, .int x), (2, .int h)] := hl
  have hown : s.vm.findClass RT = some m.cls := hown
  refine lv_aload_n hx hb dT_row_0 rfl (lv_at hl 0 rfl) ?_
  refine lv_iload_n hx hb dT_row_1 rfl (lv_at hl 1 rfl) ?_
  refine ro_ki (va_runV (As := [.int x]) (rest := []) ⟨hx, hb, hml, hown, hts⟩ (c_isBlock_no l D cI cJ cZ o rm n bs aP aH aC aT aB aZ aW aR oR oW x hx9) (cwV 1 hts gT_row_T_isBlock_76 rfl rfl rfl (by decide +kernel) ⟨Nat.le_of_ble_eq_true rfl, Nat.le_of_ble_eq_true rfl⟩) (ro_preV (hP.sub [0] rfl) hK (va_recv hK hP (ci := 2) (q0 := 0) rfl rfl)) rfl rfl hl.1 rfl (lv_room (Nat.le_of_ble_eq_true rfl)) dT_row_2 ⟨Nat.le_of_ble_eq_true rfl, Nat.le_of_ble_eq_true rfl⟩) ?_
  refine lv_if_eq (tgt := 22) hx hb dT_row_5 (by decide) (fun c_5 => ?_) (fun c_5 => ?_)
  · skip
    rw [← nI_0] at c_5
    have c_5 : 0 = 0 := n_eq c_5 (by omega) (by omega)
    refine lv_iconst (v := (-1)) hx hb dT_row_22 (by decide) ?_
    exact ro_iret hQ hx hb hr hlocks dT_row_23 rfl
  · skip
    rw [← nI_0] at c_5
    have c_5 : ¬ 0 = 0 := n_ne c_5
    omega

abbrev rm_c_row_nok : Room := { frames := 1, cells := 0, slots := 0, locals := 24 }
set_option maxRecDepth 100000 in
set_option maxHeartbeats 4000000 in
theorem c_row_nok (l : Launch) (D : va_G) (cI cJ cZ : ClassId) (o : Nat) (rm : Nat) (n : Nat) (bs : Nat) (aP : Nat) (aH : Nat) (aC : Nat) (aT : Nat) (aB : Nat) (aZ : Nat) (aW : Nat) (aR : Nat) (oR : Nat) (oW : Nat) (Hh : Nat → Nat) (j : Nat) (h : Int32) (hn3 : n ≤ rm) (hr3 : rm ≤ 300) (hj : j < n) (hh9 : ¬ (0 ≤ h ∧ h ≤ nI (Hh j))) : ro_C l yT_row wT_row rm_c_row_nok D vwCl (gT cI cJ cZ) [.ref o, .int (nI j), .int h] [(o, .inr (2, [.int (nI rm), .int (nI n), .int (nI bs), .ref aP, .ref aH, .ref aC, .ref aT, .ref aB, .ref aZ, .ref aW, .ref aR, .ref oR, .ref oW])), (aH, .inl (cI, rm, .inl (nF Hh)))] (some (.int (-1))) := by
  refine ro_of (cc := cT_row) (maxL := 6) (ret := some .int) (by decide) rfl (Nat.le_of_ble_eq_true rfl) ?_
  intro p e s m args below meth c Q ls hx hb hr hml hown hts hlocks hK hP hl hQ
  have hl : lv_has ls 6 [(0, .ref o), (1, .int (nI j)), (2, .int h)] := hl
  have hown : s.vm.findClass RT = some m.cls := hown
  refine lv_aload_n hx hb dT_row_0 rfl (lv_at hl 0 rfl) ?_
  refine lv_iload_n hx hb dT_row_1 rfl (lv_at hl 1 rfl) ?_
  refine ro_ki (va_runV (As := [.int (nI j)]) (rest := []) ⟨hx, hb, hml, hown, hts⟩ (c_isBlock_ok l D cI cJ cZ o rm n bs aP aH aC aT aB aZ aW aR oR oW j (by omega) (by omega)) (cwV 1 hts gT_row_T_isBlock_76 rfl rfl rfl (by decide +kernel) ⟨Nat.le_of_ble_eq_true rfl, Nat.le_of_ble_eq_true rfl⟩) (ro_preV (hP.sub [0] rfl) hK (va_recv hK hP (ci := 2) (q0 := 0) rfl rfl)) rfl rfl hl.1 rfl (lv_room (Nat.le_of_ble_eq_true rfl)) dT_row_2 ⟨Nat.le_of_ble_eq_true rfl, Nat.le_of_ble_eq_true rfl⟩) ?_
  refine lv_if_eq (tgt := 22) hx hb dT_row_5 (by decide) (fun c_5 => ?_) (fun c_5 => ?_)
  · skip
    rw [← nI_0] at c_5
    have c_5 : 1 = 0 := n_eq c_5 (by omega) (by omega)
    omega
  · skip
    rw [← nI_0] at c_5
    have c_5 : ¬ 1 = 0 := n_ne c_5
    refine lv_iload_n hx hb dT_row_8 rfl (lv_at hl 2 rfl) ?_
    refine lv_if_lt (tgt := 22) hx hb dT_row_9 (by decide) (fun c_9 => ?_) (fun c_9 => ?_)
    · skip
      refine lv_iconst (v := (-1)) hx hb dT_row_22 (by decide) ?_
      exact ro_iret hQ hx hb hr hlocks dT_row_23 rfl
    · skip
      refine lv_iload_n hx hb dT_row_12 rfl (lv_at hl 2 rfl) ?_
      refine lv_aload_n hx hb dT_row_13 rfl (lv_at hl 0 rfl) ?_
      refine va_get (D := D) (ci := 2) (v := .ref aH) (C := RT) (T := TT) (N := 13) hx hb hts iT_row_T hown hK hP 0 rfl rfl 4 (by decide) (hts (.fieldLink RT 17 "TreeDesk" "heights" "[I") (by decide +kernel)) (fun _ h9 => h9) rfl dT_row_14 ?_
      refine lv_iload_n hx hb dT_row_17 rfl (lv_at hl 1 rfl) ?_
      refine ar_ild (j := j) hx hb hK hP 1 0 rfl rfl dT_row_18 (by omega) (by omega) ?_
      refine tp_i (y := nI (Hh j)) rfl ?_
      refine lv_icmp_le (tgt := 24) hx hb dT_row_19 (by decide) (fun c_19 => ?_) (fun c_19 => ?_)
      · skip
        exact absurd ⟨Int32.not_lt.mp c_9, c_19⟩ hh9
      · skip
        refine lv_iconst (v := (-1)) hx hb dT_row_22 (by decide) ?_
        exact ro_iret hQ hx hb hr hlocks dT_row_23 rfl

abbrev rm_c_look_0 : Room := { frames := 1, cells := 0, slots := 0, locals := 21 }
set_option maxRecDepth 100000 in
set_option maxHeartbeats 4000000 in
theorem c_look_0 (l : Launch) (D : va_G) (cI cJ cZ : ClassId) (o : Nat) (rm : Nat) (n : Nat) (bs : Nat) (aP : Nat) (aH : Nat) (aC : Nat) (aT : Nat) (aB : Nat) (aZ : Nat) (aW : Nat) (aR : Nat) (oR : Nat) (oW : Nat) (P : Nat → Nat) (j : Nat) (hn3 : n ≤ rm) (hr3 : rm ≤ 300) (hj : j < n) : ro_C l yT_look wT_look rm_c_look_0 D vwCl (gT cI cJ cZ) [.ref o, .int (nI j), .int (nI 0)] [(o, .inr (2, [.int (nI rm), .int (nI n), .int (nI bs), .ref aP, .ref aH, .ref aC, .ref aT, .ref aB, .ref aZ, .ref aW, .ref aR, .ref oR, .ref oW])), (aP, .inl (cI, rm, .inl (pF P)))] (some (.long ((pF P j).toInt64))) := by
  refine ro_of (cc := cT_look) (maxL := 3) (ret := some .long) (by decide) rfl (Nat.le_of_ble_eq_true rfl) ?_
  intro p e s m args below meth c Q ls hx hb hr hml hown hts hlocks hK hP hl hQ
  have hl : lv_has ls 3 [(0, .ref o), (1, .int (nI j)), (2, .int (nI 0))] := hl
  have hown : s.vm.findClass RT = some m.cls := hown
  refine lv_aload_n hx hb dT_look_0 rfl (lv_at hl 0 rfl) ?_
  refine lv_iload_n hx hb dT_look_1 rfl (lv_at hl 1 rfl) ?_
  refine ro_ki (va_runV (As := [.int (nI j)]) (rest := []) ⟨hx, hb, hml, hown, hts⟩ (c_isBlock_ok l D cI cJ cZ o rm n bs aP aH aC aT aB aZ aW aR oR oW j (by omega) (by omega)) (cwV 1 hts gT_look_T_isBlock_76 rfl rfl rfl (by decide +kernel) ⟨Nat.le_of_ble_eq_true rfl, Nat.le_of_ble_eq_true rfl⟩) (ro_preV (hP.sub [0] rfl) hK (va_recv hK hP (ci := 2) (q0 := 0) rfl rfl)) rfl rfl hl.1 rfl (lv_room (Nat.le_of_ble_eq_true rfl)) dT_look_2 ⟨Nat.le_of_ble_eq_true rfl, Nat.le_of_ble_eq_true rfl⟩) ?_
  refine lv_if_ne (tgt := 12) hx hb dT_look_5 (by decide) (fun c_5 => ?_) (fun c_5 => ?_)
  · skip
    rw [← nI_0] at c_5
    have c_5 : ¬ 1 = 0 := n_ne c_5
    refine lv_iload_n hx hb dT_look_12 rfl (lv_at hl 2 rfl) ?_
    refine lv_tableIn (tgt := 52) hx hb dT_look_13 (by decide) (by decide) rfl (by decide) ?_
    refine lv_aload_n hx hb dT_look_52 rfl (lv_at hl 0 rfl) ?_
    refine va_get (D := D) (ci := 2) (v := .ref aP) (C := RT) (T := TT) (N := 13) hx hb hts iT_look_T hown hK hP 0 rfl rfl 3 (by decide) (hts (.fieldLink RT 13 "TreeDesk" "parents" "[I") (by decide +kernel)) (fun _ h9 => h9) rfl dT_look_53 ?_
    refine lv_iload_n hx hb dT_look_56 rfl (lv_at hl 1 rfl) ?_
    refine ar_ild (j := j) hx hb hK hP 1 0 rfl rfl dT_look_57 (by omega) (by omega) ?_
    refine lv_i2l (v := ((pF P) j).toInt64) hx hb dT_look_58 rfl ?_
    exact ro_lret hQ hx hb hr hlocks dT_look_59 rfl
  · skip
    rw [← nI_0] at c_5
    have c_5 : 1 = 0 := n_eq c_5 (by omega) (by omega)
    omega

abbrev rm_c_look_1 : Room := { frames := 1, cells := 0, slots := 0, locals := 21 }
set_option maxRecDepth 100000 in
set_option maxHeartbeats 4000000 in
theorem c_look_1 (l : Launch) (D : va_G) (cI cJ cZ : ClassId) (o : Nat) (rm : Nat) (n : Nat) (bs : Nat) (aP : Nat) (aH : Nat) (aC : Nat) (aT : Nat) (aB : Nat) (aZ : Nat) (aW : Nat) (aR : Nat) (oR : Nat) (oW : Nat) (Hh : Nat → Nat) (j : Nat) (hn3 : n ≤ rm) (hr3 : rm ≤ 300) (hj : j < n) : ro_C l yT_look wT_look rm_c_look_1 D vwCl (gT cI cJ cZ) [.ref o, .int (nI j), .int (nI 1)] [(o, .inr (2, [.int (nI rm), .int (nI n), .int (nI bs), .ref aP, .ref aH, .ref aC, .ref aT, .ref aB, .ref aZ, .ref aW, .ref aR, .ref oR, .ref oW])), (aH, .inl (cI, rm, .inl (nF Hh)))] (some (.long ((nI (Hh j)).toInt64))) := by
  refine ro_of (cc := cT_look) (maxL := 3) (ret := some .long) (by decide) rfl (Nat.le_of_ble_eq_true rfl) ?_
  intro p e s m args below meth c Q ls hx hb hr hml hown hts hlocks hK hP hl hQ
  have hl : lv_has ls 3 [(0, .ref o), (1, .int (nI j)), (2, .int (nI 1))] := hl
  have hown : s.vm.findClass RT = some m.cls := hown
  refine lv_aload_n hx hb dT_look_0 rfl (lv_at hl 0 rfl) ?_
  refine lv_iload_n hx hb dT_look_1 rfl (lv_at hl 1 rfl) ?_
  refine ro_ki (va_runV (As := [.int (nI j)]) (rest := []) ⟨hx, hb, hml, hown, hts⟩ (c_isBlock_ok l D cI cJ cZ o rm n bs aP aH aC aT aB aZ aW aR oR oW j (by omega) (by omega)) (cwV 1 hts gT_look_T_isBlock_76 rfl rfl rfl (by decide +kernel) ⟨Nat.le_of_ble_eq_true rfl, Nat.le_of_ble_eq_true rfl⟩) (ro_preV (hP.sub [0] rfl) hK (va_recv hK hP (ci := 2) (q0 := 0) rfl rfl)) rfl rfl hl.1 rfl (lv_room (Nat.le_of_ble_eq_true rfl)) dT_look_2 ⟨Nat.le_of_ble_eq_true rfl, Nat.le_of_ble_eq_true rfl⟩) ?_
  refine lv_if_ne (tgt := 12) hx hb dT_look_5 (by decide) (fun c_5 => ?_) (fun c_5 => ?_)
  · skip
    rw [← nI_0] at c_5
    have c_5 : ¬ 1 = 0 := n_ne c_5
    refine lv_iload_n hx hb dT_look_12 rfl (lv_at hl 2 rfl) ?_
    refine lv_tableIn (tgt := 60) hx hb dT_look_13 (by decide) (by decide) rfl (by decide) ?_
    refine lv_aload_n hx hb dT_look_60 rfl (lv_at hl 0 rfl) ?_
    refine va_get (D := D) (ci := 2) (v := .ref aH) (C := RT) (T := TT) (N := 13) hx hb hts iT_look_T hown hK hP 0 rfl rfl 4 (by decide) (hts (.fieldLink RT 17 "TreeDesk" "heights" "[I") (by decide +kernel)) (fun _ h9 => h9) rfl dT_look_61 ?_
    refine lv_iload_n hx hb dT_look_64 rfl (lv_at hl 1 rfl) ?_
    refine ar_ild (j := j) hx hb hK hP 1 0 rfl rfl dT_look_65 (by omega) (by omega) ?_
    refine lv_i2l (v := ((nF Hh) j).toInt64) hx hb dT_look_66 rfl ?_
    exact ro_lret hQ hx hb hr hlocks dT_look_67 rfl
  · skip
    rw [← nI_0] at c_5
    have c_5 : 1 = 0 := n_eq c_5 (by omega) (by omega)
    omega

abbrev rm_c_look_2 : Room := { frames := 1, cells := 0, slots := 0, locals := 21 }
set_option maxRecDepth 100000 in
set_option maxHeartbeats 4000000 in
theorem c_look_2 (l : Launch) (D : va_G) (cI cJ cZ : ClassId) (o : Nat) (rm : Nat) (n : Nat) (bs : Nat) (aP : Nat) (aH : Nat) (aC : Nat) (aT : Nat) (aB : Nat) (aZ : Nat) (aW : Nat) (aR : Nat) (oR : Nat) (oW : Nat) (Tm : Nat → Int64) (j : Nat) (hn3 : n ≤ rm) (hr3 : rm ≤ 300) (hj : j < n) : ro_C l yT_look wT_look rm_c_look_2 D vwCl (gT cI cJ cZ) [.ref o, .int (nI j), .int (nI 2)] [(o, .inr (2, [.int (nI rm), .int (nI n), .int (nI bs), .ref aP, .ref aH, .ref aC, .ref aT, .ref aB, .ref aZ, .ref aW, .ref aR, .ref oR, .ref oW])), (aT, .inl (cJ, rm, .inr (.inl Tm)))] (some (.long (Tm j))) := by
  refine ro_of (cc := cT_look) (maxL := 3) (ret := some .long) (by decide) rfl (Nat.le_of_ble_eq_true rfl) ?_
  intro p e s m args below meth c Q ls hx hb hr hml hown hts hlocks hK hP hl hQ
  have hl : lv_has ls 3 [(0, .ref o), (1, .int (nI j)), (2, .int (nI 2))] := hl
  have hown : s.vm.findClass RT = some m.cls := hown
  refine lv_aload_n hx hb dT_look_0 rfl (lv_at hl 0 rfl) ?_
  refine lv_iload_n hx hb dT_look_1 rfl (lv_at hl 1 rfl) ?_
  refine ro_ki (va_runV (As := [.int (nI j)]) (rest := []) ⟨hx, hb, hml, hown, hts⟩ (c_isBlock_ok l D cI cJ cZ o rm n bs aP aH aC aT aB aZ aW aR oR oW j (by omega) (by omega)) (cwV 1 hts gT_look_T_isBlock_76 rfl rfl rfl (by decide +kernel) ⟨Nat.le_of_ble_eq_true rfl, Nat.le_of_ble_eq_true rfl⟩) (ro_preV (hP.sub [0] rfl) hK (va_recv hK hP (ci := 2) (q0 := 0) rfl rfl)) rfl rfl hl.1 rfl (lv_room (Nat.le_of_ble_eq_true rfl)) dT_look_2 ⟨Nat.le_of_ble_eq_true rfl, Nat.le_of_ble_eq_true rfl⟩) ?_
  refine lv_if_ne (tgt := 12) hx hb dT_look_5 (by decide) (fun c_5 => ?_) (fun c_5 => ?_)
  · skip
    rw [← nI_0] at c_5
    have c_5 : ¬ 1 = 0 := n_ne c_5
    refine lv_iload_n hx hb dT_look_12 rfl (lv_at hl 2 rfl) ?_
    refine lv_tableIn (tgt := 68) hx hb dT_look_13 (by decide) (by decide) rfl (by decide) ?_
    refine lv_aload_n hx hb dT_look_68 rfl (lv_at hl 0 rfl) ?_
    refine va_get (D := D) (ci := 2) (v := .ref aT) (C := RT) (T := TT) (N := 13) hx hb hts iT_look_T hown hK hP 0 rfl rfl 6 (by decide) (hts (.fieldLink RT 23 "TreeDesk" "times" "[J") (by decide +kernel)) (fun _ h9 => h9) rfl dT_look_69 ?_
    refine lv_iload_n hx hb dT_look_72 rfl (lv_at hl 1 rfl) ?_
    refine ar_lld (j := j) hx hb hK hP 1 1 rfl rfl dT_look_73 (by omega) (by omega) ?_
    exact ro_lret hQ hx hb hr hlocks dT_look_74 rfl
  · skip
    rw [← nI_0] at c_5
    have c_5 : 1 = 0 := n_eq c_5 (by omega) (by omega)
    omega

abbrev rm_c_look_3 : Room := { frames := 1, cells := 0, slots := 0, locals := 21 }
set_option maxRecDepth 100000 in
set_option maxHeartbeats 4000000 in
theorem c_look_3 (l : Launch) (D : va_G) (cI cJ cZ : ClassId) (o : Nat) (rm : Nat) (n : Nat) (bs : Nat) (aP : Nat) (aH : Nat) (aC : Nat) (aT : Nat) (aB : Nat) (aZ : Nat) (aW : Nat) (aR : Nat) (oR : Nat) (oW : Nat) (Bt : Nat → Int64) (j : Nat) (hn3 : n ≤ rm) (hr3 : rm ≤ 300) (hj : j < n) : ro_C l yT_look wT_look rm_c_look_3 D vwCl (gT cI cJ cZ) [.ref o, .int (nI j), .int (nI 3)] [(o, .inr (2, [.int (nI rm), .int (nI n), .int (nI bs), .ref aP, .ref aH, .ref aC, .ref aT, .ref aB, .ref aZ, .ref aW, .ref aR, .ref oR, .ref oW])), (aB, .inl (cJ, rm, .inr (.inl Bt)))] (some (.long (Bt j))) := by
  refine ro_of (cc := cT_look) (maxL := 3) (ret := some .long) (by decide) rfl (Nat.le_of_ble_eq_true rfl) ?_
  intro p e s m args below meth c Q ls hx hb hr hml hown hts hlocks hK hP hl hQ
  have hl : lv_has ls 3 [(0, .ref o), (1, .int (nI j)), (2, .int (nI 3))] := hl
  have hown : s.vm.findClass RT = some m.cls := hown
  refine lv_aload_n hx hb dT_look_0 rfl (lv_at hl 0 rfl) ?_
  refine lv_iload_n hx hb dT_look_1 rfl (lv_at hl 1 rfl) ?_
  refine ro_ki (va_runV (As := [.int (nI j)]) (rest := []) ⟨hx, hb, hml, hown, hts⟩ (c_isBlock_ok l D cI cJ cZ o rm n bs aP aH aC aT aB aZ aW aR oR oW j (by omega) (by omega)) (cwV 1 hts gT_look_T_isBlock_76 rfl rfl rfl (by decide +kernel) ⟨Nat.le_of_ble_eq_true rfl, Nat.le_of_ble_eq_true rfl⟩) (ro_preV (hP.sub [0] rfl) hK (va_recv hK hP (ci := 2) (q0 := 0) rfl rfl)) rfl rfl hl.1 rfl (lv_room (Nat.le_of_ble_eq_true rfl)) dT_look_2 ⟨Nat.le_of_ble_eq_true rfl, Nat.le_of_ble_eq_true rfl⟩) ?_
  refine lv_if_ne (tgt := 12) hx hb dT_look_5 (by decide) (fun c_5 => ?_) (fun c_5 => ?_)
  · skip
    rw [← nI_0] at c_5
    have c_5 : ¬ 1 = 0 := n_ne c_5
    refine lv_iload_n hx hb dT_look_12 rfl (lv_at hl 2 rfl) ?_
    refine lv_tableIn (tgt := 75) hx hb dT_look_13 (by decide) (by decide) rfl (by decide) ?_
    refine lv_aload_n hx hb dT_look_75 rfl (lv_at hl 0 rfl) ?_
    refine va_get (D := D) (ci := 2) (v := .ref aB) (C := RT) (T := TT) (N := 13) hx hb hts iT_look_T hown hK hP 0 rfl rfl 7 (by decide) (hts (.fieldLink RT 27 "TreeDesk" "bitsOf" "[J") (by decide +kernel)) (fun _ h9 => h9) rfl dT_look_76 ?_
    refine lv_iload_n hx hb dT_look_79 rfl (lv_at hl 1 rfl) ?_
    refine ar_lld (j := j) hx hb hK hP 1 1 rfl rfl dT_look_80 (by omega) (by omega) ?_
    exact ro_lret hQ hx hb hr hlocks dT_look_81 rfl
  · skip
    rw [← nI_0] at c_5
    have c_5 : 1 = 0 := n_eq c_5 (by omega) (by omega)
    omega

abbrev rm_c_look_4 : Room := { frames := 1, cells := 0, slots := 0, locals := 21 }
set_option maxRecDepth 100000 in
set_option maxHeartbeats 4000000 in
theorem c_look_4 (l : Launch) (D : va_G) (cI cJ cZ : ClassId) (o : Nat) (rm : Nat) (n : Nat) (bs : Nat) (aP : Nat) (aH : Nat) (aC : Nat) (aT : Nat) (aB : Nat) (aZ : Nat) (aW : Nat) (aR : Nat) (oR : Nat) (oW : Nat) (Zb : Nat → Nat) (j : Nat) (hn3 : n ≤ rm) (hr3 : rm ≤ 300) (hj : j < n) (hz3 : Zb j < 2) : ro_C l yT_look wT_look rm_c_look_4 D vwCl (gT cI cJ cZ) [.ref o, .int (nI j), .int (nI 4)] [(o, .inr (2, [.int (nI rm), .int (nI n), .int (nI bs), .ref aP, .ref aH, .ref aC, .ref aT, .ref aB, .ref aZ, .ref aW, .ref aR, .ref oR, .ref oW])), (aZ, .inl (cZ, rm, .inl (nF Zb)))] (some (.long (if Zb j = 0 then 0 else 1))) := by
  refine ro_of (cc := cT_look) (maxL := 3) (ret := some .long) (by decide) rfl (Nat.le_of_ble_eq_true rfl) ?_
  intro p e s m args below meth c Q ls hx hb hr hml hown hts hlocks hK hP hl hQ
  have hl : lv_has ls 3 [(0, .ref o), (1, .int (nI j)), (2, .int (nI 4))] := hl
  have hown : s.vm.findClass RT = some m.cls := hown
  refine lv_aload_n hx hb dT_look_0 rfl (lv_at hl 0 rfl) ?_
  refine lv_iload_n hx hb dT_look_1 rfl (lv_at hl 1 rfl) ?_
  refine ro_ki (va_runV (As := [.int (nI j)]) (rest := []) ⟨hx, hb, hml, hown, hts⟩ (c_isBlock_ok l D cI cJ cZ o rm n bs aP aH aC aT aB aZ aW aR oR oW j (by omega) (by omega)) (cwV 1 hts gT_look_T_isBlock_76 rfl rfl rfl (by decide +kernel) ⟨Nat.le_of_ble_eq_true rfl, Nat.le_of_ble_eq_true rfl⟩) (ro_preV (hP.sub [0] rfl) hK (va_recv hK hP (ci := 2) (q0 := 0) rfl rfl)) rfl rfl hl.1 rfl (lv_room (Nat.le_of_ble_eq_true rfl)) dT_look_2 ⟨Nat.le_of_ble_eq_true rfl, Nat.le_of_ble_eq_true rfl⟩) ?_
  refine lv_if_ne (tgt := 12) hx hb dT_look_5 (by decide) (fun c_5 => ?_) (fun c_5 => ?_)
  · skip
    rw [← nI_0] at c_5
    have c_5 : ¬ 1 = 0 := n_ne c_5
    refine lv_iload_n hx hb dT_look_12 rfl (lv_at hl 2 rfl) ?_
    refine lv_tableIn (tgt := 82) hx hb dT_look_13 (by decide) (by decide) rfl (by decide) ?_
    refine lv_aload_n hx hb dT_look_82 rfl (lv_at hl 0 rfl) ?_
    refine va_get (D := D) (ci := 2) (v := .ref aZ) (C := RT) (T := TT) (N := 13) hx hb hts iT_look_T hown hK hP 0 rfl rfl 8 (by decide) (hts (.fieldLink RT 30 "TreeDesk" "bad" "[Z") (by decide +kernel)) (fun _ h9 => h9) rfl dT_look_83 ?_
    refine lv_iload_n hx hb dT_look_86 rfl (lv_at hl 1 rfl) ?_
    refine ar_zld (j := j) hx hb hK hP 1 2 rfl rfl dT_look_87 (by omega) (by omega) ?_
    refine tp_i (y := nI (Zb j)) rfl ?_
    refine lv_if_eq (tgt := 95) hx hb dT_look_88 (by decide) (fun c_88 => ?_) (fun c_88 => ?_)
    · skip
      rw [← nI_0] at c_88
      have c_88 : (Zb j) = 0 := n_eq c_88 (by omega) (by omega)
      refine lv_lconst (v := 0) hx hb dT_look_95 (by decide) ?_
      exact ro_lret hQ hx hb hr hlocks dT_look_96 (by rw [if_pos c_88])
    · skip
      rw [← nI_0] at c_88
      have c_88 : ¬ (Zb j) = 0 := n_ne c_88
      refine lv_lconst (v := 1) hx hb dT_look_91 (by decide) ?_
      refine lv_goto (tgt := 96) hx hb dT_look_92 (by decide) ?_
      exact ro_lret hQ hx hb hr hlocks dT_look_96 (by rw [if_neg c_88])
  · skip
    rw [← nI_0] at c_5
    have c_5 : 1 = 0 := n_eq c_5 (by omega) (by omega)
    omega

abbrev rm_c_look_5 : Room := { frames := 1, cells := 0, slots := 0, locals := 21 }
set_option maxRecDepth 100000 in
set_option maxHeartbeats 4000000 in
theorem c_look_5 (l : Launch) (D : va_G) (cI cJ cZ : ClassId) (o : Nat) (rm : Nat) (n : Nat) (bs : Nat) (aP : Nat) (aH : Nat) (aC : Nat) (aT : Nat) (aB : Nat) (aZ : Nat) (aW : Nat) (aR : Nat) (oR : Nat) (oW : Nat) (Ch : Nat → Nat) (j : Nat) (hn3 : n ≤ rm) (hr3 : rm ≤ 300) (hj : j < n) : ro_C l yT_look wT_look rm_c_look_5 D vwCl (gT cI cJ cZ) [.ref o, .int (nI j), .int (nI 5)] [(o, .inr (2, [.int (nI rm), .int (nI n), .int (nI bs), .ref aP, .ref aH, .ref aC, .ref aT, .ref aB, .ref aZ, .ref aW, .ref aR, .ref oR, .ref oW])), (aC, .inl (cI, rm, .inl (nF Ch)))] (some (.long ((nI (Ch j)).toInt64))) := by
  refine ro_of (cc := cT_look) (maxL := 3) (ret := some .long) (by decide) rfl (Nat.le_of_ble_eq_true rfl) ?_
  intro p e s m args below meth c Q ls hx hb hr hml hown hts hlocks hK hP hl hQ
  have hl : lv_has ls 3 [(0, .ref o), (1, .int (nI j)), (2, .int (nI 5))] := hl
  have hown : s.vm.findClass RT = some m.cls := hown
  refine lv_aload_n hx hb dT_look_0 rfl (lv_at hl 0 rfl) ?_
  refine lv_iload_n hx hb dT_look_1 rfl (lv_at hl 1 rfl) ?_
  refine ro_ki (va_runV (As := [.int (nI j)]) (rest := []) ⟨hx, hb, hml, hown, hts⟩ (c_isBlock_ok l D cI cJ cZ o rm n bs aP aH aC aT aB aZ aW aR oR oW j (by omega) (by omega)) (cwV 1 hts gT_look_T_isBlock_76 rfl rfl rfl (by decide +kernel) ⟨Nat.le_of_ble_eq_true rfl, Nat.le_of_ble_eq_true rfl⟩) (ro_preV (hP.sub [0] rfl) hK (va_recv hK hP (ci := 2) (q0 := 0) rfl rfl)) rfl rfl hl.1 rfl (lv_room (Nat.le_of_ble_eq_true rfl)) dT_look_2 ⟨Nat.le_of_ble_eq_true rfl, Nat.le_of_ble_eq_true rfl⟩) ?_
  refine lv_if_ne (tgt := 12) hx hb dT_look_5 (by decide) (fun c_5 => ?_) (fun c_5 => ?_)
  · skip
    rw [← nI_0] at c_5
    have c_5 : ¬ 1 = 0 := n_ne c_5
    refine lv_iload_n hx hb dT_look_12 rfl (lv_at hl 2 rfl) ?_
    refine lv_tableIn (tgt := 97) hx hb dT_look_13 (by decide) (by decide) rfl (by decide) ?_
    refine lv_aload_n hx hb dT_look_97 rfl (lv_at hl 0 rfl) ?_
    refine va_get (D := D) (ci := 2) (v := .ref aC) (C := RT) (T := TT) (N := 13) hx hb hts iT_look_T hown hK hP 0 rfl rfl 5 (by decide) (hts (.fieldLink RT 20 "TreeDesk" "children" "[I") (by decide +kernel)) (fun _ h9 => h9) rfl dT_look_98 ?_
    refine lv_iload_n hx hb dT_look_101 rfl (lv_at hl 1 rfl) ?_
    refine ar_ild (j := j) hx hb hK hP 1 0 rfl rfl dT_look_102 (by omega) (by omega) ?_
    refine lv_i2l (v := ((nF Ch) j).toInt64) hx hb dT_look_103 rfl ?_
    exact ro_lret hQ hx hb hr hlocks dT_look_104 rfl
  · skip
    rw [← nI_0] at c_5
    have c_5 : 1 = 0 := n_eq c_5 (by omega) (by omega)
    omega

abbrev rm_c_look_out : Room := { frames := 1, cells := 0, slots := 0, locals := 21 }
set_option maxRecDepth 100000 in
set_option maxHeartbeats 4000000 in
theorem c_look_out (l : Launch) (D : va_G) (cI cJ cZ : ClassId) (o : Nat) (rm : Nat) (n : Nat) (bs : Nat) (aP : Nat) (aH : Nat) (aC : Nat) (aT : Nat) (aB : Nat) (aZ : Nat) (aW : Nat) (aR : Nat) (oR : Nat) (oW : Nat) (j : Nat) (w : Int32) (hn9 : n ≤ 300) (hj : j < n) (hw9 : w.toInt < 0 ∨ 5 < w.toInt) : ro_C l yT_look wT_look rm_c_look_out D vwCl (gT cI cJ cZ) [.ref o, .int (nI j), .int w] [(o, .inr (2, [.int (nI rm), .int (nI n), .int (nI bs), .ref aP, .ref aH, .ref aC, .ref aT, .ref aB, .ref aZ, .ref aW, .ref aR, .ref oR, .ref oW]))] (some (.long (-1))) := by
  refine ro_of (cc := cT_look) (maxL := 3) (ret := some .long) (by decide) rfl (Nat.le_of_ble_eq_true rfl) ?_
  intro p e s m args below meth c Q ls hx hb hr hml hown hts hlocks hK hP hl hQ
  have hl : lv_has ls 3 [(0, .ref o), (1, .int (nI j)), (2, .int w)] := hl
  have hown : s.vm.findClass RT = some m.cls := hown
  refine lv_aload_n hx hb dT_look_0 rfl (lv_at hl 0 rfl) ?_
  refine lv_iload_n hx hb dT_look_1 rfl (lv_at hl 1 rfl) ?_
  refine ro_ki (va_runV (As := [.int (nI j)]) (rest := []) ⟨hx, hb, hml, hown, hts⟩ (c_isBlock_ok l D cI cJ cZ o rm n bs aP aH aC aT aB aZ aW aR oR oW j (by omega) (by omega)) (cwV 1 hts gT_look_T_isBlock_76 rfl rfl rfl (by decide +kernel) ⟨Nat.le_of_ble_eq_true rfl, Nat.le_of_ble_eq_true rfl⟩) (ro_preV (hP.sub [0] rfl) hK (va_recv hK hP (ci := 2) (q0 := 0) rfl rfl)) rfl rfl hl.1 rfl (lv_room (Nat.le_of_ble_eq_true rfl)) dT_look_2 ⟨Nat.le_of_ble_eq_true rfl, Nat.le_of_ble_eq_true rfl⟩) ?_
  refine lv_if_ne (tgt := 12) hx hb dT_look_5 (by decide) (fun c_5 => ?_) (fun c_5 => ?_)
  · skip
    rw [← nI_0] at c_5
    have c_5 : ¬ 1 = 0 := n_ne c_5
    refine lv_iload_n hx hb dT_look_12 rfl (lv_at hl 2 rfl) ?_
    refine lv_tableOut (tgt := 105) hx hb dT_look_13 hw9 (by decide) ?_
    refine lv_ldc2 (v := (-1)) hx hb hown (hts (.constantLong RT 99 (-1)) (by decide +kernel)) dT_look_105 ?_
    exact ro_lret hQ hx hb hr hlocks dT_look_108 rfl
  · skip
    rw [← nI_0] at c_5
    have c_5 : 1 = 0 := n_eq c_5 (by omega) (by omega)
    omega

abbrev rm_c_look_nob : Room := { frames := 1, cells := 0, slots := 0, locals := 21 }
set_option maxRecDepth 100000 in
set_option maxHeartbeats 4000000 in
theorem c_look_nob (l : Launch) (D : va_G) (cI cJ cZ : ClassId) (o : Nat) (rm : Nat) (n : Nat) (bs : Nat) (aP : Nat) (aH : Nat) (aC : Nat) (aT : Nat) (aB : Nat) (aZ : Nat) (aW : Nat) (aR : Nat) (oR : Nat) (oW : Nat) (x : Int32) (w : Int32) (hx9 : ¬ (0 ≤ x ∧ x < nI n)) : ro_C l yT_look wT_look rm_c_look_nob D vwCl (gT cI cJ cZ) [.ref o, .int x, .int w] [(o, .inr (2, [.int (nI rm), .int (nI n), .int (nI bs), .ref aP, .ref aH, .ref aC, .ref aT, .ref aB, .ref aZ, .ref aW, .ref aR, .ref oR, .ref oW]))] (some (.long (-1))) := by
  refine ro_of (cc := cT_look) (maxL := 3) (ret := some .long) (by decide) rfl (Nat.le_of_ble_eq_true rfl) ?_
  intro p e s m args below meth c Q ls hx hb hr hml hown hts hlocks hK hP hl hQ
  have hl : lv_has ls 3 [(0, .ref o), (1, .int x), (2, .int w)] := hl
  have hown : s.vm.findClass RT = some m.cls := hown
  refine lv_aload_n hx hb dT_look_0 rfl (lv_at hl 0 rfl) ?_
  refine lv_iload_n hx hb dT_look_1 rfl (lv_at hl 1 rfl) ?_
  refine ro_ki (va_runV (As := [.int x]) (rest := []) ⟨hx, hb, hml, hown, hts⟩ (c_isBlock_no l D cI cJ cZ o rm n bs aP aH aC aT aB aZ aW aR oR oW x hx9) (cwV 1 hts gT_look_T_isBlock_76 rfl rfl rfl (by decide +kernel) ⟨Nat.le_of_ble_eq_true rfl, Nat.le_of_ble_eq_true rfl⟩) (ro_preV (hP.sub [0] rfl) hK (va_recv hK hP (ci := 2) (q0 := 0) rfl rfl)) rfl rfl hl.1 rfl (lv_room (Nat.le_of_ble_eq_true rfl)) dT_look_2 ⟨Nat.le_of_ble_eq_true rfl, Nat.le_of_ble_eq_true rfl⟩) ?_
  refine lv_if_ne (tgt := 12) hx hb dT_look_5 (by decide) (fun c_5 => ?_) (fun c_5 => ?_)
  · skip
    rw [← nI_0] at c_5
    have c_5 : ¬ 0 = 0 := n_ne c_5
    omega
  · skip
    rw [← nI_0] at c_5
    have c_5 : 0 = 0 := n_eq c_5 (by omega) (by omega)
    refine lv_ldc2 (v := (-1)) hx hb hown (hts (.constantLong RT 99 (-1)) (by decide +kernel)) dT_look_8 ?_
    exact ro_lret hQ hx hb hr hlocks dT_look_11 rfl

abbrev rm_c_rank : Room := { frames := 0, cells := 0, slots := 0, locals := 0 }
set_option maxRecDepth 100000 in
set_option maxHeartbeats 4000000 in
theorem c_rank (l : Launch) (D : va_G) (cI cJ cZ : ClassId) (o : Nat) (rm : Nat) (n : Nat) (bs : Nat) (aP : Nat) (aH : Nat) (aC : Nat) (aT : Nat) (aB : Nat) (aZ : Nat) (aW : Nat) (aR : Nat) (oR : Nat) (oW : Nat) (Rk : Nat → Int64) (t : Int64) (c9 : Nat) (hc9 : c9 < 11) : rw_C l yT_rank wT_rank rm_c_rank D vwCl (gT cI cJ cZ) [.ref o, .long t, .int (nI c9)] [(o, .inr (2, [.int (nI rm), .int (nI n), .int (nI bs), .ref aP, .ref aH, .ref aC, .ref aT, .ref aB, .ref aZ, .ref aW, .ref aR, .ref oR, .ref oW])), (aR, .inl (cJ, 11, .inr (.inl Rk)))] (fun v9 w9 => v9 = none ∧ w9 = [(o, .inr (2, [.int (nI rm), .int (nI n), .int (nI bs), .ref aP, .ref aH, .ref aC, .ref aT, .ref aB, .ref aZ, .ref aW, .ref aR, .ref oR, .ref oW])), (aR, .inl (cJ, 11, .inr (.inl (m_rank t c9 Rk))))]) 0 0 := by
  refine rw_of (cc := cT_rank) (maxL := 5) (ret := none) (by decide) rfl (Nat.le_of_ble_eq_true rfl) ?_
  intro p e s m args below meth c Q A ls hx hb hr hml hown hts hlocks hin hK hP hD hA hl hQ
  have hS : va_S A s.heap s.heap [] := va_S.rf
  have hl : lv_has ls 5 [(0, .ref o), (1, .long t), (3, .int (nI c9))] := hl
  have hown : s.vm.findClass RT = some m.cls := hown
  obtain ⟨H, hHe⟩ : ∃ H : Heap, H = s.heap := ⟨_, rfl⟩
  rw [← hHe] at hP
  have hS : va_S A s.heap H [] := by rw [hHe]; exact va_S.rf
  suffices h9 : W p l e rm_c_rank s m args below meth c H [] 0 0 Q (F0 m 0 ls []) by rw [hHe] at h9; exact h9
  clear hHe
  refine lv_iload_n hx hb dT_rank_0 rfl (lv_at hl 2 rfl) ?_
  refine lv_istore (lv' := [(4, .int (nI c9)), (0, .ref o), (1, .long t), (3, .int (nI c9))]) hx hb dT_rank_1 hl (by decide) rfl (fun ls hl => ?_)
  have lp_3 : ∀ (n_3 : Nat) (k : Nat) (g : Nat → Int64), (k < n_3) → (k < 11) → (m_rank t k g = m_rank t c9 Rk) → ∀ (H : Heap) (locs : List Loc), va_P D vwCl [(o, .inr (2, [.int (nI rm), .int (nI n), .int (nI bs), .ref aP, .ref aH, .ref aC, .ref aT, .ref aB, .ref aZ, .ref aW, .ref aR, .ref oR, .ref oW])), (aR, .inl (cJ, 11, .inr (.inl g)))] H → va_D A [(o, .inr (2, [.int (nI rm), .int (nI n), .int (nI bs), .ref aP, .ref aH, .ref aC, .ref aT, .ref aB, .ref aZ, .ref aW, .ref aR, .ref oR, .ref oW])), (aR, .inl (cJ, 11, .inr (.inl g)))] → va_S A s.heap H locs → ∀ (ls : Array Slot), lv_has ls 5 [(0, .ref o), (1, .long t), (4, .int (nI k))] → W p l e rm_c_rank s m args below meth c H locs 0 0 Q (F0 m 3 ls []) := by
    intro n_3
    induction n_3 with
    | zero => intro k g hn hk hg H locs hP hD hS ls hl; exact absurd hn (by omega)
    | succ n_3 ih_3 =>
      intro k g hn hk hg H locs hP hD hS ls hl
      refine lv_iload hx hb dT_rank_3 (lv_at hl 2 rfl) ?_
      refine lv_if_le (tgt := 44) hx hb dT_rank_5 (by decide) (fun c_5 => ?_) (fun c_5 => ?_)
      · skip
        rw [← nI_0] at c_5
        have c_5 : k ≤ 0 := n_le c_5 (by omega) (by omega)
        have hk0 : k = 0 := by omega
        subst hk0
        refine lv_aload_n hx hb dT_rank_44 rfl (lv_at hl 0 rfl) ?_
        refine va_get (D := D) (ci := 2) (v := .ref aR) (C := RT) (T := TT) (N := 13) hx hb hts iT_rank_T hown hK hP 0 rfl rfl 10 (by decide) (hts (.fieldLink RT 39 "TreeDesk" "ranked" "[J") (by decide +kernel)) (fun _ h9 => h9) rfl dT_rank_45 ?_
        refine lv_iload hx hb dT_rank_48 (lv_at hl 2 rfl) ?_
        refine lv_lload_n hx hb dT_rank_50 rfl (lv_at hl 1 rfl) ?_
        refine ar_lst (j := 0) hx hb hK hP hD hS 1 1 rfl rfl dT_rank_51 (by omega) (by omega) (fun H locs hP hD hS => ?_)
        have hP : va_P D vwCl [(o, .inr (2, [.int (nI rm), .int (nI n), .int (nI bs), .ref aP, .ref aH, .ref aC, .ref aT, .ref aB, .ref aZ, .ref aW, .ref aR, .ref oR, .ref oW])), (aR, .inl (cJ, 11, .inr (.inl (vp_updL g 0 t))))] H := hP
        have hD : va_D A [(o, .inr (2, [.int (nI rm), .int (nI n), .int (nI bs), .ref aP, .ref aH, .ref aC, .ref aT, .ref aB, .ref aZ, .ref aW, .ref aR, .ref oR, .ref oW])), (aR, .inl (cJ, 11, .inr (.inl (vp_updL g 0 t))))] := hD
        exact rw_vret (w := [(o, .inr (2, [.int (nI rm), .int (nI n), .int (nI bs), .ref aP, .ref aH, .ref aC, .ref aT, .ref aB, .ref aZ, .ref aW, .ref aR, .ref oR, .ref oW])), (aR, .inl (cJ, 11, .inr (.inl (vp_updL g 0 t))))]) hQ hx hb hr hlocks dT_rank_52 (hP.sub [0, 1] rfl) (hD.sub [0, 1] (by decide) rfl) hS ⟨rfl, by rw [← hg]; rfl⟩
      · skip
        rw [← nI_0] at c_5
        have c_5 : 0 < k := n_nle c_5 (by omega) (by omega)
        obtain ⟨j, rfl⟩ : ∃ j' : Nat, k = j' + 1 := ⟨k - 1, by omega⟩
        refine lv_aload_n hx hb dT_rank_8 rfl (lv_at hl 0 rfl) ?_
        refine va_get (D := D) (ci := 2) (v := .ref aR) (C := RT) (T := TT) (N := 13) hx hb hts iT_rank_T hown hK hP 0 rfl rfl 10 (by decide) (hts (.fieldLink RT 39 "TreeDesk" "ranked" "[J") (by decide +kernel)) (fun _ h9 => h9) rfl dT_rank_9 ?_
        refine lv_iload hx hb dT_rank_12 (lv_at hl 2 rfl) ?_
        refine lv_iconst (v := nI 1) hx hb dT_rank_14 (by decide) ?_
        refine lv_isub hx hb dT_rank_15 ?_
        refine tp_i (y := nI ((j + 1) - 1)) (pk_sub (by omega)) ?_
        refine ar_lld (j := (j + 1) - 1) hx hb hK hP 1 1 rfl rfl dT_rank_16 (by omega) (by omega) ?_
        refine lv_lload_n hx hb dT_rank_17 rfl (lv_at hl 1 rfl) ?_
        refine lc_le (tgt := 44) hx hb dT_rank_18 dT_rank_19 (by decide) (fun c_19 => ?_) (fun c_19 => ?_)
        · skip
          have c_19 : g j ≤ t := c_19
          refine lv_aload_n hx hb dT_rank_44 rfl (lv_at hl 0 rfl) ?_
          refine va_get (D := D) (ci := 2) (v := .ref aR) (C := RT) (T := TT) (N := 13) hx hb hts iT_rank_T hown hK hP 0 rfl rfl 10 (by decide) (hts (.fieldLink RT 39 "TreeDesk" "ranked" "[J") (by decide +kernel)) (fun _ h9 => h9) rfl dT_rank_45 ?_
          refine lv_iload hx hb dT_rank_48 (lv_at hl 2 rfl) ?_
          refine lv_lload_n hx hb dT_rank_50 rfl (lv_at hl 1 rfl) ?_
          refine ar_lst (j := (j + 1)) hx hb hK hP hD hS 1 1 rfl rfl dT_rank_51 (by omega) (by omega) (fun H locs hP hD hS => ?_)
          have hP : va_P D vwCl [(o, .inr (2, [.int (nI rm), .int (nI n), .int (nI bs), .ref aP, .ref aH, .ref aC, .ref aT, .ref aB, .ref aZ, .ref aW, .ref aR, .ref oR, .ref oW])), (aR, .inl (cJ, 11, .inr (.inl (vp_updL g (j + 1) t))))] H := hP
          have hD : va_D A [(o, .inr (2, [.int (nI rm), .int (nI n), .int (nI bs), .ref aP, .ref aH, .ref aC, .ref aT, .ref aB, .ref aZ, .ref aW, .ref aR, .ref oR, .ref oW])), (aR, .inl (cJ, 11, .inr (.inl (vp_updL g (j + 1) t))))] := hD
          exact rw_vret (w := [(o, .inr (2, [.int (nI rm), .int (nI n), .int (nI bs), .ref aP, .ref aH, .ref aC, .ref aT, .ref aB, .ref aZ, .ref aW, .ref aR, .ref oR, .ref oW])), (aR, .inl (cJ, 11, .inr (.inl (vp_updL g (j + 1) t))))]) hQ hx hb hr hlocks dT_rank_52 (hP.sub [0, 1] rfl) (hD.sub [0, 1] (by decide) rfl) hS ⟨rfl, by rw [← hg, m_rank, if_pos c_19]⟩
        · skip
          have c_19 : ¬ g j ≤ t := c_19
          refine lv_aload_n hx hb dT_rank_22 rfl (lv_at hl 0 rfl) ?_
          refine va_get (D := D) (ci := 2) (v := .ref aR) (C := RT) (T := TT) (N := 13) hx hb hts iT_rank_T hown hK hP 0 rfl rfl 10 (by decide) (hts (.fieldLink RT 39 "TreeDesk" "ranked" "[J") (by decide +kernel)) (fun _ h9 => h9) rfl dT_rank_23 ?_
          refine lv_iload hx hb dT_rank_26 (lv_at hl 2 rfl) ?_
          refine lv_aload_n hx hb dT_rank_28 rfl (lv_at hl 0 rfl) ?_
          refine va_get (D := D) (ci := 2) (v := .ref aR) (C := RT) (T := TT) (N := 13) hx hb hts iT_rank_T hown hK hP 0 rfl rfl 10 (by decide) (hts (.fieldLink RT 39 "TreeDesk" "ranked" "[J") (by decide +kernel)) (fun _ h9 => h9) rfl dT_rank_29 ?_
          refine lv_iload hx hb dT_rank_32 (lv_at hl 2 rfl) ?_
          refine lv_iconst (v := nI 1) hx hb dT_rank_34 (by decide) ?_
          refine lv_isub hx hb dT_rank_35 ?_
          refine tp_i (y := nI ((j + 1) - 1)) (pk_sub (by omega)) ?_
          refine ar_lld (j := (j + 1) - 1) hx hb hK hP 1 1 rfl rfl dT_rank_36 (by omega) (by omega) ?_
          refine ar_lst (j := (j + 1)) hx hb hK hP hD hS 1 1 rfl rfl dT_rank_37 (by omega) (by omega) (fun H locs hP hD hS => ?_)
          have hP : va_P D vwCl [(o, .inr (2, [.int (nI rm), .int (nI n), .int (nI bs), .ref aP, .ref aH, .ref aC, .ref aT, .ref aB, .ref aZ, .ref aW, .ref aR, .ref oR, .ref oW])), (aR, .inl (cJ, 11, .inr (.inl (vp_updL g (j + 1) (g ((j + 1) - 1))))))] H := hP
          have hD : va_D A [(o, .inr (2, [.int (nI rm), .int (nI n), .int (nI bs), .ref aP, .ref aH, .ref aC, .ref aT, .ref aB, .ref aZ, .ref aW, .ref aR, .ref oR, .ref oW])), (aR, .inl (cJ, 11, .inr (.inl (vp_updL g (j + 1) (g ((j + 1) - 1))))))] := hD
          refine lv_iinc (v := nI ((j + 1) - 1)) (lv' := [(4, .int (nI ((j + 1) - 1))), (0, .ref o), (1, .long t)]) hx hb dT_rank_38 hl (k := 2) rfl (sb_m1 (by omega)) (by decide) rfl (fun ls hl => ?_)
          refine lv_goto (tgt := 3) hx hb dT_rank_41 (by decide) ?_
          exact ih_3 j (vp_updL g (j + 1) (g j)) (by omega) (by omega) (by rw [← hg, m_rank, if_neg c_19]) _ _ (hP.sub [0, 1] rfl) (hD.sub [0, 1] (by decide) rfl) hS ls (lv_sub hl [1, 2, 0] rfl)
  exact lp_3 (c9 + 1) c9 Rk (by omega) (by omega) rfl _ _ (hP.sub [0, 1] rfl) (hD.sub [0, 1] (by decide) rfl) hS ls (lv_sub hl [1, 2, 0] rfl)

abbrev rm_c_median_ok : Room := { frames := 1, cells := 0, slots := 0, locals := 24 }
set_option maxRecDepth 100000 in
set_option maxHeartbeats 4000000 in
theorem c_median_ok (l : Launch) (D : va_G) (cI cJ cZ : ClassId) (o : Nat) (rm : Nat) (n : Nat) (bs : Nat) (aP : Nat) (aH : Nat) (aC : Nat) (aT : Nat) (aB : Nat) (aZ : Nat) (aW : Nat) (aR : Nat) (oR : Nat) (oW : Nat) (P : Nat → Nat) (Tm : Nat → Int64) (Rk : Nat → Int64) (j : Nat) (hn3 : n ≤ rm) (hr3 : rm ≤ 300) (hj : j < n) (hpar : ∀ x : Nat, 0 < x → x < n → P x < x) : rw_C l yT_median wT_median rm_c_median_ok D vwCl (gT cI cJ cZ) [.ref o, .int (nI j)] [(o, .inr (2, [.int (nI rm), .int (nI n), .int (nI bs), .ref aP, .ref aH, .ref aC, .ref aT, .ref aB, .ref aZ, .ref aW, .ref aR, .ref oR, .ref oW])), (aP, .inl (cI, rm, .inl (pF P))), (aT, .inl (cJ, rm, .inr (.inl Tm))), (aR, .inl (cJ, 11, .inr (.inl Rk)))] (fun v9 w9 => v9 = some (.long ((m_med P Tm 11 0 (j + 1) Rk).1 ((m_med P Tm 11 0 (j + 1) Rk).2 / 2))) ∧ w9 = [(o, .inr (2, [.int (nI rm), .int (nI n), .int (nI bs), .ref aP, .ref aH, .ref aC, .ref aT, .ref aB, .ref aZ, .ref aW, .ref aR, .ref oR, .ref oW])), (aP, .inl (cI, rm, .inl (pF P))), (aT, .inl (cJ, rm, .inr (.inl Tm))), (aR, .inl (cJ, 11, .inr (.inl ((m_med P Tm 11 0 (j + 1) Rk).1))))]) 0 0 := by
  refine rw_of (cc := cT_median) (maxL := 4) (ret := some .long) (by decide) rfl (Nat.le_of_ble_eq_true rfl) ?_
  intro p e s m args below meth c Q A ls hx hb hr hml hown hts hlocks hin hK hP hD hA hl hQ
  have hS : va_S A s.heap s.heap [] := va_S.rf
  have hl : lv_has ls 4 [(0, .ref o), (1, .int (nI j))] := hl
  have hown : s.vm.findClass RT = some m.cls := hown
  obtain ⟨H, hHe⟩ : ∃ H : Heap, H = s.heap := ⟨_, rfl⟩
  rw [← hHe] at hP
  have hS : va_S A s.heap H [] := by rw [hHe]; exact va_S.rf
  suffices h9 : W p l e rm_c_median_ok s m args below meth c H [] 0 0 Q (F0 m 0 ls []) by rw [hHe] at h9; exact h9
  clear hHe
  refine lv_aload_n hx hb dT_median_0 rfl (lv_at hl 0 rfl) ?_
  refine lv_iload_n hx hb dT_median_1 rfl (lv_at hl 1 rfl) ?_
  refine ro_ki (va_runV (As := [.int (nI j)]) (rest := []) ⟨hx, hb, hml, hown, hts⟩ (c_isBlock_ok l D cI cJ cZ o rm n bs aP aH aC aT aB aZ aW aR oR oW j (by omega) (by omega)) (cwV 1 hts gT_median_T_isBlock_76 rfl rfl rfl (by decide +kernel) ⟨Nat.le_of_ble_eq_true rfl, Nat.le_of_ble_eq_true rfl⟩) (ro_preV (hP.sub [0] rfl) hK (va_recv hK hP (ci := 2) (q0 := 0) rfl rfl)) rfl rfl hl.1 rfl (lv_room (Nat.le_of_ble_eq_true rfl)) dT_median_2 ⟨Nat.le_of_ble_eq_true rfl, Nat.le_of_ble_eq_true rfl⟩) ?_
  refine lv_if_ne (tgt := 12) hx hb dT_median_5 (by decide) (fun c_5 => ?_) (fun c_5 => ?_)
  · skip
    rw [← nI_0] at c_5
    have c_5 : ¬ 1 = 0 := n_ne c_5
    refine lv_iconst (v := nI 0) hx hb dT_median_12 (by decide) ?_
    refine lv_istore_n (lv' := [(2, .int (nI 0)), (0, .ref o), (1, .int (nI j))]) hx hb dT_median_13 rfl hl (by decide) rfl (fun ls hl => ?_)
    refine lv_iload_n hx hb dT_median_14 rfl (lv_at hl 2 rfl) ?_
    refine lv_istore_n (lv' := [(3, .int (nI j)), (2, .int (nI 0)), (0, .ref o), (1, .int (nI j))]) hx hb dT_median_15 rfl hl (by decide) rfl (fun ls hl => ?_)
    have lp_16 : ∀ (n_16 : Nat) (d c9 a : Nat) (i : Int32) (g : Nat → Int64), (d < n_16) → (c9 + d = 11) → (a ≤ n) → (i = nI a + (-1)) → (m_med P Tm d c9 a g = m_med P Tm 11 0 (j + 1) Rk) → ∀ (H : Heap) (locs : List Loc), va_P D vwCl [(o, .inr (2, [.int (nI rm), .int (nI n), .int (nI bs), .ref aP, .ref aH, .ref aC, .ref aT, .ref aB, .ref aZ, .ref aW, .ref aR, .ref oR, .ref oW])), (aP, .inl (cI, rm, .inl (pF P))), (aT, .inl (cJ, rm, .inr (.inl Tm))), (aR, .inl (cJ, 11, .inr (.inl g)))] H → va_D A [(o, .inr (2, [.int (nI rm), .int (nI n), .int (nI bs), .ref aP, .ref aH, .ref aC, .ref aT, .ref aB, .ref aZ, .ref aW, .ref aR, .ref oR, .ref oW])), (aP, .inl (cI, rm, .inl (pF P))), (aT, .inl (cJ, rm, .inr (.inl Tm))), (aR, .inl (cJ, 11, .inr (.inl g)))] → va_S A s.heap H locs → ∀ (ls : Array Slot), lv_has ls 4 [(0, .ref o), (1, .int (nI j)), (2, .int (nI c9)), (3, .int i)] → W p l e rm_c_median_ok s m args below meth c H locs 0 0 Q (F0 m 16 ls []) := by
      intro n_16
      induction n_16 with
      | zero => intro d c9 a i g hn hd ha hi hg H locs hP hD hS ls hl; exact absurd hn (by omega)
      | succ n_16 ih_16 =>
        intro d c9 a i g hn hd ha hi hg H locs hP hD hS ls hl
        refine lv_iload_n hx hb dT_median_16 rfl (lv_at hl 2 rfl) ?_
        refine lv_bipush (v := nI 11) hx hb dT_median_17 (by decide) ?_
        refine lv_icmp_ge (tgt := 50) hx hb dT_median_19 (by decide) (fun c_19 => ?_) (fun c_19 => ?_)
        · skip
          have c_19 : 11 ≤ c9 := n_le c_19 (by omega) (by omega)
          have hd0 : d = 0 := by omega
          subst hd0
          have hz : m_med P Tm 11 0 (j + 1) Rk = (g, c9) := hg.symm.trans rfl
          refine lv_aload_n hx hb dT_median_50 rfl (lv_at hl 0 rfl) ?_
          refine va_get (D := D) (ci := 2) (v := .ref aR) (C := RT) (T := TT) (N := 13) hx hb hts iT_median_T hown hK hP 0 rfl rfl 10 (by decide) (hts (.fieldLink RT 39 "TreeDesk" "ranked" "[J") (by decide +kernel)) (fun _ h9 => h9) rfl dT_median_51 ?_
          refine lv_iload_n hx hb dT_median_54 rfl (lv_at hl 2 rfl) ?_
          refine lv_iconst (v := nI 2) hx hb dT_median_55 (by decide) ?_
          refine lv_idiv hx hb dT_median_56 (nI_ne0 (by omega) (by omega)) ?_
          refine tp_i (y := nI (c9 / 2)) (pk_div (by omega) (by omega) (by omega)) ?_
          refine ar_lld (j := c9 / 2) hx hb hK hP 3 1 rfl rfl dT_median_57 (by omega) (by omega) ?_
          exact rw_lret (w := [(o, .inr (2, [.int (nI rm), .int (nI n), .int (nI bs), .ref aP, .ref aH, .ref aC, .ref aT, .ref aB, .ref aZ, .ref aW, .ref aR, .ref oR, .ref oW])), (aP, .inl (cI, rm, .inl (pF P))), (aT, .inl (cJ, rm, .inr (.inl Tm))), (aR, .inl (cJ, 11, .inr (.inl g)))]) hQ hx hb hr hlocks dT_median_58 (hP.sub [0, 1, 2, 3] rfl) (hD.sub [0, 1, 2, 3] (by decide) rfl) hS ⟨by rw [hz], by rw [hz]⟩
        · skip
          have c_19 : c9 < 11 := n_nle c_19 (by omega) (by omega)
          obtain ⟨d, rfl⟩ : ∃ d' : Nat, d = d' + 1 := ⟨d - 1, by omega⟩
          refine lv_iload_n hx hb dT_median_22 rfl (lv_at hl 3 rfl) ?_
          refine lv_if_lt (tgt := 50) hx hb dT_median_23 (by decide) (fun c_23 => ?_) (fun c_23 => ?_)
          · skip
            have hk0 : a = 0 := dn_0 hi c_23 (by omega)
            subst hk0
            have hz : m_med P Tm 11 0 (j + 1) Rk = (g, c9) := hg.symm.trans rfl
            refine lv_aload_n hx hb dT_median_50 rfl (lv_at hl 0 rfl) ?_
            refine va_get (D := D) (ci := 2) (v := .ref aR) (C := RT) (T := TT) (N := 13) hx hb hts iT_median_T hown hK hP 0 rfl rfl 10 (by decide) (hts (.fieldLink RT 39 "TreeDesk" "ranked" "[J") (by decide +kernel)) (fun _ h9 => h9) rfl dT_median_51 ?_
            refine lv_iload_n hx hb dT_median_54 rfl (lv_at hl 2 rfl) ?_
            refine lv_iconst (v := nI 2) hx hb dT_median_55 (by decide) ?_
            refine lv_idiv hx hb dT_median_56 (nI_ne0 (by omega) (by omega)) ?_
            refine tp_i (y := nI (c9 / 2)) (pk_div (by omega) (by omega) (by omega)) ?_
            refine ar_lld (j := c9 / 2) hx hb hK hP 3 1 rfl rfl dT_median_57 (by omega) (by omega) ?_
            exact rw_lret (w := [(o, .inr (2, [.int (nI rm), .int (nI n), .int (nI bs), .ref aP, .ref aH, .ref aC, .ref aT, .ref aB, .ref aZ, .ref aW, .ref aR, .ref oR, .ref oW])), (aP, .inl (cI, rm, .inl (pF P))), (aT, .inl (cJ, rm, .inr (.inl Tm))), (aR, .inl (cJ, 11, .inr (.inl g)))]) hQ hx hb hr hlocks dT_median_58 (hP.sub [0, 1, 2, 3] rfl) (hD.sub [0, 1, 2, 3] (by decide) rfl) hS ⟨by rw [hz], by rw [hz]⟩
          · skip
            obtain ⟨x, rfl, rfl⟩ := dn_s hi c_23
            refine lv_aload_n hx hb dT_median_26 rfl (lv_at hl 0 rfl) ?_
            refine lv_aload_n hx hb dT_median_27 rfl (lv_at hl 0 rfl) ?_
            refine va_get (D := D) (ci := 2) (v := .ref aT) (C := RT) (T := TT) (N := 13) hx hb hts iT_median_T hown hK hP 0 rfl rfl 6 (by decide) (hts (.fieldLink RT 23 "TreeDesk" "times" "[J") (by decide +kernel)) (fun _ h9 => h9) rfl dT_median_28 ?_
            refine lv_iload_n hx hb dT_median_31 rfl (lv_at hl 3 rfl) ?_
            refine ar_lld (j := x) hx hb hK hP 2 1 rfl rfl dT_median_32 (by omega) (by omega) ?_
            refine lv_iload_n hx hb dT_median_33 rfl (lv_at hl 2 rfl) ?_
            refine rw_k (wc := [(o, .inr (2, [.int (nI rm), .int (nI n), .int (nI bs), .ref aP, .ref aH, .ref aC, .ref aT, .ref aB, .ref aZ, .ref aW, .ref aR, .ref oR, .ref oW])), (aR, .inl (cJ, 11, .inr (.inl g)))]) (wr := [(aP, .inl (cI, rm, .inl (pF P))), (aT, .inl (cJ, rm, .inr (.inl Tm)))]) (va_runV (As := [.long (Tm x), .int (nI c9)]) (rest := []) ⟨hx, hb, hml, hown, hts⟩ (c_rank l D cI cJ cZ o rm n bs aP aH aC aT aB aZ aW aR oR oW g (Tm x) c9 (by omega) H.size) (cwV 2 hts gT_median_T_rank_109 rfl rfl rfl (by decide +kernel) ⟨Nat.le_of_ble_eq_true rfl, Nat.le_of_ble_eq_true rfl⟩) (rw_preV (hP.sub [0, 3] rfl) hK (hD.sub [0, 3] (by decide) rfl) (va_recv hK hP (ci := 2) (q0 := 0) rfl rfl)) rfl rfl hl.1 rfl (lv_room (Nat.le_of_ble_eq_true rfl)) dT_median_34 ⟨Nat.le_of_ble_eq_true rfl, Nat.le_of_ble_eq_true rfl⟩) hP hD hS hA [0, 3] [1, 2] rfl rfl (by decide) (by decide) (fun v9 w9 H locs hp9 hP hD hS => ?_)
            obtain ⟨rfl, rfl⟩ := hp9
            have hP : va_P D vwCl [(aP, .inl (cI, rm, .inl (pF P))), (aT, .inl (cJ, rm, .inr (.inl Tm))), (o, .inr (2, [.int (nI rm), .int (nI n), .int (nI bs), .ref aP, .ref aH, .ref aC, .ref aT, .ref aB, .ref aZ, .ref aW, .ref aR, .ref oR, .ref oW])), (aR, .inl (cJ, 11, .inr (.inl (m_rank (Tm x) c9 g))))] H := hP
            have hD : va_D A [(aP, .inl (cI, rm, .inl (pF P))), (aT, .inl (cJ, rm, .inr (.inl Tm))), (o, .inr (2, [.int (nI rm), .int (nI n), .int (nI bs), .ref aP, .ref aH, .ref aC, .ref aT, .ref aB, .ref aZ, .ref aW, .ref aR, .ref oR, .ref oW])), (aR, .inl (cJ, 11, .inr (.inl (m_rank (Tm x) c9 g))))] := hD
            refine W.eq (g2 := F0 m 37 ls []) rfl ?_
            refine lv_iinc (v := nI (c9 + 1)) (lv' := [(2, .int (nI (c9 + 1))), (0, .ref o), (1, .int (nI j)), (3, .int (nI x))]) hx hb dT_median_37 hl (k := 2) rfl (nI_add _ 1) (by decide) rfl (fun ls hl => ?_)
            refine lv_aload_n hx hb dT_median_40 rfl (lv_at hl 1 rfl) ?_
            refine va_get (D := D) (ci := 2) (v := .ref aP) (C := RT) (T := TT) (N := 13) hx hb hts iT_median_T hown hK hP 2 rfl rfl 3 (by decide) (hts (.fieldLink RT 13 "TreeDesk" "parents" "[I") (by decide +kernel)) (fun _ h9 => h9) rfl dT_median_41 ?_
            refine lv_iload_n hx hb dT_median_44 rfl (lv_at hl 3 rfl) ?_
            refine ar_ild (j := x) hx hb hK hP 0 0 rfl rfl dT_median_45 (by omega) (by omega) ?_
            refine tp_i (y := nI (m_pn P x) + (-1)) (m_pn_I P x) ?_
            refine lv_istore_n (lv' := [(3, .int (nI (m_pn P x) + (-1))), (2, .int (nI (c9 + 1))), (0, .ref o), (1, .int (nI j))]) hx hb dT_median_46 rfl hl (by decide) rfl (fun ls hl => ?_)
            refine lv_goto (tgt := 16) hx hb dT_median_47 (by decide) ?_
            exact ih_16 d (c9 + 1) (m_pn P x) (nI (m_pn P x) + (-1)) (m_rank (Tm x) c9 g) (by omega) (by omega) (m_pn_le hpar (by omega)) rfl hg _ _ (hP.sub [2, 0, 1, 3] rfl) (hD.sub [2, 0, 1, 3] (by decide) rfl) hS ls (lv_sub hl [2, 3, 1, 0] rfl)
    exact lp_16 12 11 0 (j + 1) (nI j) Rk (by omega) (by omega) (by omega) (pk_m1 j).symm rfl _ _ (hP.sub [0, 1, 2, 3] rfl) (hD.sub [0, 1, 2, 3] (by decide) rfl) hS ls (lv_sub hl [2, 3, 1, 0] rfl)
  · skip
    rw [← nI_0] at c_5
    have c_5 : 1 = 0 := n_eq c_5 (by omega) (by omega)
    omega

abbrev rm_c_median_nob : Room := { frames := 1, cells := 0, slots := 0, locals := 24 }
set_option maxRecDepth 100000 in
set_option maxHeartbeats 4000000 in
theorem c_median_nob (l : Launch) (D : va_G) (cI cJ cZ : ClassId) (o : Nat) (rm : Nat) (n : Nat) (bs : Nat) (aP : Nat) (aH : Nat) (aC : Nat) (aT : Nat) (aB : Nat) (aZ : Nat) (aW : Nat) (aR : Nat) (oR : Nat) (oW : Nat) (x : Int32) (hx9 : ¬ (0 ≤ x ∧ x < nI n)) : ro_C l yT_median wT_median rm_c_median_nob D vwCl (gT cI cJ cZ) [.ref o, .int x] [(o, .inr (2, [.int (nI rm), .int (nI n), .int (nI bs), .ref aP, .ref aH, .ref aC, .ref aT, .ref aB, .ref aZ, .ref aW, .ref aR, .ref oR, .ref oW]))] (some (.long (-1))) := by
  refine ro_of (cc := cT_median) (maxL := 4) (ret := some .long) (by decide) rfl (Nat.le_of_ble_eq_true rfl) ?_
  intro p e s m args below meth c Q ls hx hb hr hml hown hts hlocks hK hP hl hQ
  have hl : lv_has ls 4 [(0, .ref o), (1, .int x)] := hl
  have hown : s.vm.findClass RT = some m.cls := hown
  refine lv_aload_n hx hb dT_median_0 rfl (lv_at hl 0 rfl) ?_
  refine lv_iload_n hx hb dT_median_1 rfl (lv_at hl 1 rfl) ?_
  refine ro_ki (va_runV (As := [.int x]) (rest := []) ⟨hx, hb, hml, hown, hts⟩ (c_isBlock_no l D cI cJ cZ o rm n bs aP aH aC aT aB aZ aW aR oR oW x hx9) (cwV 1 hts gT_median_T_isBlock_76 rfl rfl rfl (by decide +kernel) ⟨Nat.le_of_ble_eq_true rfl, Nat.le_of_ble_eq_true rfl⟩) (ro_preV (hP.sub [0] rfl) hK (va_recv hK hP (ci := 2) (q0 := 0) rfl rfl)) rfl rfl hl.1 rfl (lv_room (Nat.le_of_ble_eq_true rfl)) dT_median_2 ⟨Nat.le_of_ble_eq_true rfl, Nat.le_of_ble_eq_true rfl⟩) ?_
  refine lv_if_ne (tgt := 12) hx hb dT_median_5 (by decide) (fun c_5 => ?_) (fun c_5 => ?_)
  · skip
    rw [← nI_0] at c_5
    have c_5 : ¬ 0 = 0 := n_ne c_5
    omega
  · skip
    rw [← nI_0] at c_5
    have c_5 : 0 = 0 := n_eq c_5 (by omega) (by omega)
    refine lv_ldc2 (v := (-1)) hx hb hown (hts (.constantLong RT 99 (-1)) (by decide +kernel)) dT_median_8 ?_
    exact ro_lret hQ hx hb hr hlocks dT_median_11 rfl

abbrev rm_c_must_nob : Room := { frames := 5, cells := 0, slots := 0, locals := 131 }
set_option maxRecDepth 100000 in
set_option maxHeartbeats 4000000 in
theorem c_must_nob (l : Launch) (D : va_G) (cI cJ cZ : ClassId) (o : Nat) (rm : Nat) (n : Nat) (bs : Nat) (aP : Nat) (aH : Nat) (aC : Nat) (aT : Nat) (aB : Nat) (aZ : Nat) (aW : Nat) (aR : Nat) (oR : Nat) (oW : Nat) (x : Int32) (hx9 : ¬ (0 ≤ x ∧ x < nI n)) : ro_C l yT_must wT_must rm_c_must_nob D vwCl (gT cI cJ cZ) [.ref o, .int x] [(o, .inr (2, [.int (nI rm), .int (nI n), .int (nI bs), .ref aP, .ref aH, .ref aC, .ref aT, .ref aB, .ref aZ, .ref aW, .ref aR, .ref oR, .ref oW]))] (some (.long (-1))) := by
  refine ro_of (cc := cT_must) (maxL := 4) (ret := some .long) (by decide) rfl (Nat.le_of_ble_eq_true rfl) ?_
  intro p e s m args below meth c Q ls hx hb hr hml hown hts hlocks hK hP hl hQ
  have hl : lv_has ls 4 [(0, .ref o), (1, .int x)] := hl
  have hown : s.vm.findClass RT = some m.cls := hown
  refine lv_aload_n hx hb dT_must_0 rfl (lv_at hl 0 rfl) ?_
  refine lv_iload_n hx hb dT_must_1 rfl (lv_at hl 1 rfl) ?_
  refine ro_ki (va_runV (As := [.int x]) (rest := []) ⟨hx, hb, hml, hown, hts⟩ (c_isBlock_no l D cI cJ cZ o rm n bs aP aH aC aT aB aZ aW aR oR oW x hx9) (cwV 1 hts gT_must_T_isBlock_76 rfl rfl rfl (by decide +kernel) ⟨Nat.le_of_ble_eq_true rfl, Nat.le_of_ble_eq_true rfl⟩) (ro_preV (hP.sub [0] rfl) hK (va_recv hK hP (ci := 2) (q0 := 0) rfl rfl)) rfl rfl hl.1 rfl (lv_room (Nat.le_of_ble_eq_true rfl)) dT_must_2 ⟨Nat.le_of_ble_eq_true rfl, Nat.le_of_ble_eq_true rfl⟩) ?_
  refine lv_if_ne (tgt := 12) hx hb dT_must_5 (by decide) (fun c_5 => ?_) (fun c_5 => ?_)
  · skip
    rw [← nI_0] at c_5
    have c_5 : ¬ 0 = 0 := n_ne c_5
    omega
  · skip
    rw [← nI_0] at c_5
    have c_5 : 0 = 0 := n_eq c_5 (by omega) (by omega)
    refine lv_ldc2 (v := (-1)) hx hb hown (hts (.constantLong RT 99 (-1)) (by decide +kernel)) dT_must_8 ?_
    exact ro_lret hQ hx hb hr hlocks dT_must_11 rfl

abbrev rm_c_must_same : Room := { frames := 5, cells := 0, slots := 0, locals := 131 }
set_option maxRecDepth 100000 in
set_option maxHeartbeats 4000000 in
theorem c_must_same (l : Launch) (D : va_G) (cI cJ cZ : ClassId) (o : Nat) (rm : Nat) (n : Nat) (bs : Nat) (aP : Nat) (aH : Nat) (aC : Nat) (aT : Nat) (aB : Nat) (aZ : Nat) (aW : Nat) (aR : Nat) (oR : Nat) (oW : Nat) (Hh : Nat → Nat) (Bt : Nat → Int64) (j : Nat) (hn3 : n ≤ rm) (hr3 : rm ≤ 300) (hj : j < n) (hHj : Hh j < 300) (h8 : ¬ (Hh j + 1) % 8 = 0) : ro_C l yT_must wT_must rm_c_must_same D vwCl (gT cI cJ cZ) [.ref o, .int (nI j)] [(o, .inr (2, [.int (nI rm), .int (nI n), .int (nI bs), .ref aP, .ref aH, .ref aC, .ref aT, .ref aB, .ref aZ, .ref aW, .ref aR, .ref oR, .ref oW])), (aH, .inl (cI, rm, .inl (nF Hh))), (aB, .inl (cJ, rm, .inr (.inl Bt)))] (some (.long (Bt j))) := by
  refine ro_of (cc := cT_must) (maxL := 4) (ret := some .long) (by decide) rfl (Nat.le_of_ble_eq_true rfl) ?_
  intro p e s m args below meth c Q ls hx hb hr hml hown hts hlocks hK hP hl hQ
  have hl : lv_has ls 4 [(0, .ref o), (1, .int (nI j))] := hl
  have hown : s.vm.findClass RT = some m.cls := hown
  refine lv_aload_n hx hb dT_must_0 rfl (lv_at hl 0 rfl) ?_
  refine lv_iload_n hx hb dT_must_1 rfl (lv_at hl 1 rfl) ?_
  refine ro_ki (va_runV (As := [.int (nI j)]) (rest := []) ⟨hx, hb, hml, hown, hts⟩ (c_isBlock_ok l D cI cJ cZ o rm n bs aP aH aC aT aB aZ aW aR oR oW j (by omega) (by omega)) (cwV 1 hts gT_must_T_isBlock_76 rfl rfl rfl (by decide +kernel) ⟨Nat.le_of_ble_eq_true rfl, Nat.le_of_ble_eq_true rfl⟩) (ro_preV (hP.sub [0] rfl) hK (va_recv hK hP (ci := 2) (q0 := 0) rfl rfl)) rfl rfl hl.1 rfl (lv_room (Nat.le_of_ble_eq_true rfl)) dT_must_2 ⟨Nat.le_of_ble_eq_true rfl, Nat.le_of_ble_eq_true rfl⟩) ?_
  refine lv_if_ne (tgt := 12) hx hb dT_must_5 (by decide) (fun c_5 => ?_) (fun c_5 => ?_)
  · skip
    rw [← nI_0] at c_5
    have c_5 : ¬ 1 = 0 := n_ne c_5
    refine lv_aload_n hx hb dT_must_12 rfl (lv_at hl 0 rfl) ?_
    refine va_get (D := D) (ci := 2) (v := .ref aH) (C := RT) (T := TT) (N := 13) hx hb hts iT_must_T hown hK hP 0 rfl rfl 4 (by decide) (hts (.fieldLink RT 17 "TreeDesk" "heights" "[I") (by decide +kernel)) (fun _ h9 => h9) rfl dT_must_13 ?_
    refine lv_iload_n hx hb dT_must_16 rfl (lv_at hl 1 rfl) ?_
    refine ar_ild (j := j) hx hb hK hP 1 0 rfl rfl dT_must_17 (by omega) (by omega) ?_
    refine tp_i (y := nI (Hh j)) rfl ?_
    refine lv_istore_n (lv' := [(2, .int (nI (Hh j))), (0, .ref o), (1, .int (nI j))]) hx hb dT_must_18 rfl hl (by decide) rfl (fun ls hl => ?_)
    refine lv_iload_n hx hb dT_must_19 rfl (lv_at hl 0 rfl) ?_
    refine lv_iconst (v := nI 1) hx hb dT_must_20 (by decide) ?_
    refine lv_iadd hx hb dT_must_21 ?_
    refine tp_i (y := nI ((Hh j) + 1)) (nI_add _ _) ?_
    refine lv_bipush (v := nI 8) hx hb dT_must_22 (by decide) ?_
    refine lv_irem hx hb dT_must_24 (nI_ne0 (by omega) (by omega)) ?_
    refine tp_i (y := nI (((Hh j) + 1) % 8)) (pk_rem (by omega) (by omega) (by omega)) ?_
    refine lv_if_eq (tgt := 35) hx hb dT_must_25 (by decide) (fun c_25 => ?_) (fun c_25 => ?_)
    · skip
      rw [← nI_0] at c_25
      have c_25 : (((Hh j) + 1) % 8) = 0 := n_eq c_25 (by omega) (by omega)
      omega
    · skip
      rw [← nI_0] at c_25
      have c_25 : ¬ (((Hh j) + 1) % 8) = 0 := n_ne c_25
      refine lv_aload_n hx hb dT_must_28 rfl (lv_at hl 1 rfl) ?_
      refine va_get (D := D) (ci := 2) (v := .ref aB) (C := RT) (T := TT) (N := 13) hx hb hts iT_must_T hown hK hP 0 rfl rfl 7 (by decide) (hts (.fieldLink RT 27 "TreeDesk" "bitsOf" "[J") (by decide +kernel)) (fun _ h9 => h9) rfl dT_must_29 ?_
      refine lv_iload_n hx hb dT_must_32 rfl (lv_at hl 2 rfl) ?_
      refine ar_lld (j := j) hx hb hK hP 2 1 rfl rfl dT_must_33 (by omega) (by omega) ?_
      exact ro_lret hQ hx hb hr hlocks dT_must_34 rfl
  · skip
    rw [← nI_0] at c_5
    have c_5 : 1 = 0 := n_eq c_5 (by omega) (by omega)
    omega

abbrev rm_c_must_ret : Room := { frames := 5, cells := 0, slots := 0, locals := 131 }
set_option maxRecDepth 100000 in
set_option maxHeartbeats 4000000 in
theorem c_must_ret (l : Launch) (D : va_G) (cI cJ cZ : ClassId) (o : Nat) (rm : Nat) (n : Nat) (bs : Nat) (aP : Nat) (aH : Nat) (aC : Nat) (aT : Nat) (aB : Nat) (aZ : Nat) (aW : Nat) (aR : Nat) (oR : Nat) (oW : Nat) (P : Nat → Nat) (Hh : Nat → Nat) (Tm : Nat → Int64) (Bt : Nat → Int64) (aQ : Nat) (pr : Nat → Int64) (j : Nat) (hn3 : n ≤ rm) (hr3 : rm ≤ 300) (hj : j < n) (hHj : Hh j < 300) (h8 : (Hh j + 1) % 8 = 0) (hpar : ∀ x : Nat, 0 < x → x < n → P x < x) : rw_C l yT_must wT_must rm_c_must_ret D vwCl (gT cI cJ cZ) [.ref o, .int (nI j)] [(o, .inr (2, [.int (nI rm), .int (nI n), .int (nI bs), .ref aP, .ref aH, .ref aC, .ref aT, .ref aB, .ref aZ, .ref aW, .ref aR, .ref oR, .ref oW])), (aP, .inl (cI, rm, .inl (pF P))), (aH, .inl (cI, rm, .inl (nF Hh))), (aT, .inl (cJ, rm, .inr (.inl Tm))), (aB, .inl (cJ, rm, .inr (.inl Bt))), (oR, .inr (0, [.ref aQ])), (aQ, .inl (cJ, 9, .inr (.inl pr)))] (fun v9 w9 => v9 = some (.long (m_next (m_pr (Bt j) (Tm j - Tm (m_anc P (Hh j - (Hh j - 7)) j)) pr))) ∧ w9 = [(o, .inr (2, [.int (nI rm), .int (nI n), .int (nI bs), .ref aP, .ref aH, .ref aC, .ref aT, .ref aB, .ref aZ, .ref aW, .ref aR, .ref oR, .ref oW])), (aP, .inl (cI, rm, .inl (pF P))), (aH, .inl (cI, rm, .inl (nF Hh))), (aT, .inl (cJ, rm, .inr (.inl Tm))), (aB, .inl (cJ, rm, .inr (.inl Bt))), (oR, .inr (0, [.ref aQ])), (aQ, .inl (cJ, 9, .inr (.inl (m_pr (Bt j) (Tm j - Tm (m_anc P (Hh j - (Hh j - 7)) j)) pr))))]) 0 0 := by
  refine rw_of (cc := cT_must) (maxL := 4) (ret := some .long) (by decide) rfl (Nat.le_of_ble_eq_true rfl) ?_
  intro p e s m args below meth c Q A ls hx hb hr hml hown hts hlocks hin hK hP hD hA hl hQ
  have hS : va_S A s.heap s.heap [] := va_S.rf
  have hl : lv_has ls 4 [(0, .ref o), (1, .int (nI j))] := hl
  have hown : s.vm.findClass RT = some m.cls := hown
  obtain ⟨H, hHe⟩ : ∃ H : Heap, H = s.heap := ⟨_, rfl⟩
  rw [← hHe] at hP
  have hS : va_S A s.heap H [] := by rw [hHe]; exact va_S.rf
  suffices h9 : W p l e rm_c_must_ret s m args below meth c H [] 0 0 Q (F0 m 0 ls []) by rw [hHe] at h9; exact h9
  clear hHe
  refine lv_aload_n hx hb dT_must_0 rfl (lv_at hl 0 rfl) ?_
  refine lv_iload_n hx hb dT_must_1 rfl (lv_at hl 1 rfl) ?_
  refine ro_ki (va_runV (As := [.int (nI j)]) (rest := []) ⟨hx, hb, hml, hown, hts⟩ (c_isBlock_ok l D cI cJ cZ o rm n bs aP aH aC aT aB aZ aW aR oR oW j (by omega) (by omega)) (cwV 1 hts gT_must_T_isBlock_76 rfl rfl rfl (by decide +kernel) ⟨Nat.le_of_ble_eq_true rfl, Nat.le_of_ble_eq_true rfl⟩) (ro_preV (hP.sub [0] rfl) hK (va_recv hK hP (ci := 2) (q0 := 0) rfl rfl)) rfl rfl hl.1 rfl (lv_room (Nat.le_of_ble_eq_true rfl)) dT_must_2 ⟨Nat.le_of_ble_eq_true rfl, Nat.le_of_ble_eq_true rfl⟩) ?_
  refine lv_if_ne (tgt := 12) hx hb dT_must_5 (by decide) (fun c_5 => ?_) (fun c_5 => ?_)
  · skip
    rw [← nI_0] at c_5
    have c_5 : ¬ 1 = 0 := n_ne c_5
    refine lv_aload_n hx hb dT_must_12 rfl (lv_at hl 0 rfl) ?_
    refine va_get (D := D) (ci := 2) (v := .ref aH) (C := RT) (T := TT) (N := 13) hx hb hts iT_must_T hown hK hP 0 rfl rfl 4 (by decide) (hts (.fieldLink RT 17 "TreeDesk" "heights" "[I") (by decide +kernel)) (fun _ h9 => h9) rfl dT_must_13 ?_
    refine lv_iload_n hx hb dT_must_16 rfl (lv_at hl 1 rfl) ?_
    refine ar_ild (j := j) hx hb hK hP 2 0 rfl rfl dT_must_17 (by omega) (by omega) ?_
    refine tp_i (y := nI (Hh j)) rfl ?_
    refine lv_istore_n (lv' := [(2, .int (nI (Hh j))), (0, .ref o), (1, .int (nI j))]) hx hb dT_must_18 rfl hl (by decide) rfl (fun ls hl => ?_)
    refine lv_iload_n hx hb dT_must_19 rfl (lv_at hl 0 rfl) ?_
    refine lv_iconst (v := nI 1) hx hb dT_must_20 (by decide) ?_
    refine lv_iadd hx hb dT_must_21 ?_
    refine tp_i (y := nI ((Hh j) + 1)) (nI_add _ _) ?_
    refine lv_bipush (v := nI 8) hx hb dT_must_22 (by decide) ?_
    refine lv_irem hx hb dT_must_24 (nI_ne0 (by omega) (by omega)) ?_
    refine tp_i (y := nI (((Hh j) + 1) % 8)) (pk_rem (by omega) (by omega) (by omega)) ?_
    refine lv_if_eq (tgt := 35) hx hb dT_must_25 (by decide) (fun c_25 => ?_) (fun c_25 => ?_)
    · skip
      rw [← nI_0] at c_25
      have c_25 : (((Hh j) + 1) % 8) = 0 := n_eq c_25 (by omega) (by omega)
      refine lv_aload_n hx hb dT_must_35 rfl (lv_at hl 1 rfl) ?_
      refine lv_iload_n hx hb dT_must_36 rfl (lv_at hl 2 rfl) ?_
      refine lv_iload_n hx hb dT_must_37 rfl (lv_at hl 0 rfl) ?_
      refine lv_bipush (v := nI 7) hx hb dT_must_38 (by decide) ?_
      refine lv_isub hx hb dT_must_40 ?_
      refine tp_i (y := nI ((Hh j) - 7)) (pk_sub (by omega)) ?_
      refine ro_ki (va_runV (As := [.int (nI j), .int (nI ((Hh j) - 7))]) (rest := []) ⟨hx, hb, hml, hown, hts⟩ (c_ancestor l D cI cJ cZ o rm n bs aP aH aC aT aB aZ aW aR oR oW P Hh j ((Hh j) - 7) (by omega) (by omega) (by omega) (by omega) (by omega) hpar) (cwV 2 hts gT_must_T_ancestor_101 rfl rfl rfl (by decide +kernel) ⟨Nat.le_of_ble_eq_true rfl, Nat.le_of_ble_eq_true rfl⟩) (ro_preV (hP.sub [0, 1, 2] rfl) hK (va_recv hK hP (ci := 2) (q0 := 0) rfl rfl)) rfl rfl hl.1 rfl (lv_room (Nat.le_of_ble_eq_true rfl)) dT_must_41 ⟨Nat.le_of_ble_eq_true rfl, Nat.le_of_ble_eq_true rfl⟩) ?_
      refine lv_istore_n (lv' := [(3, .int (nI (m_anc P (Hh j - ((Hh j) - 7)) j))), (2, .int (nI (Hh j))), (0, .ref o), (1, .int (nI j))]) hx hb dT_must_44 rfl hl (by decide) rfl (fun ls hl => ?_)
      refine lv_aload_n hx hb dT_must_45 rfl (lv_at hl 2 rfl) ?_
      refine va_get (D := D) (ci := 2) (v := .ref oR) (C := RT) (T := TT) (N := 13) hx hb hts iT_must_T hown hK hP 0 rfl rfl 11 (by decide) (hts (.fieldLink RT 45 "TreeDesk" "retarget" "LTreeDesk$Retarget;") (by decide +kernel)) (fun _ h9 => h9) rfl dT_must_46 ?_
      refine lv_aload_n hx hb dT_must_49 rfl (lv_at hl 2 rfl) ?_
      refine va_get (D := D) (ci := 2) (v := .ref aB) (C := RT) (T := TT) (N := 13) hx hb hts iT_must_T hown hK hP 0 rfl rfl 7 (by decide) (hts (.fieldLink RT 27 "TreeDesk" "bitsOf" "[J") (by decide +kernel)) (fun _ h9 => h9) rfl dT_must_50 ?_
      refine lv_iload_n hx hb dT_must_53 rfl (lv_at hl 3 rfl) ?_
      refine ar_lld (j := j) hx hb hK hP 4 1 rfl rfl dT_must_54 (by omega) (by omega) ?_
      refine lv_aload_n hx hb dT_must_55 rfl (lv_at hl 2 rfl) ?_
      refine va_get (D := D) (ci := 2) (v := .ref aT) (C := RT) (T := TT) (N := 13) hx hb hts iT_must_T hown hK hP 0 rfl rfl 6 (by decide) (hts (.fieldLink RT 23 "TreeDesk" "times" "[J") (by decide +kernel)) (fun _ h9 => h9) rfl dT_must_56 ?_
      refine lv_iload_n hx hb dT_must_59 rfl (lv_at hl 3 rfl) ?_
      refine ar_lld (j := j) hx hb hK hP 3 1 rfl rfl dT_must_60 (by omega) (by omega) ?_
      refine lv_aload_n hx hb dT_must_61 rfl (lv_at hl 2 rfl) ?_
      refine va_get (D := D) (ci := 2) (v := .ref aT) (C := RT) (T := TT) (N := 13) hx hb hts iT_must_T hown hK hP 0 rfl rfl 6 (by decide) (hts (.fieldLink RT 23 "TreeDesk" "times" "[J") (by decide +kernel)) (fun _ h9 => h9) rfl dT_must_62 ?_
      have hanc : m_anc P (Hh j - (Hh j - 7)) j < n := m_anc_lt hpar hj
      refine lv_iload_n hx hb dT_must_65 rfl (lv_at hl 0 rfl) ?_
      refine ar_lld (j := m_anc P (Hh j - ((Hh j) - 7)) j) hx hb hK hP 3 1 rfl rfl dT_must_66 (by omega) (by omega) ?_
      refine lv_lsub hx hb dT_must_67 ?_
      refine rw_k (wc := [(oR, .inr (0, [.ref aQ])), (aQ, .inl (cJ, 9, .inr (.inl pr)))]) (wr := [(o, .inr (2, [.int (nI rm), .int (nI n), .int (nI bs), .ref aP, .ref aH, .ref aC, .ref aT, .ref aB, .ref aZ, .ref aW, .ref aR, .ref oR, .ref oW])), (aP, .inl (cI, rm, .inl (pF P))), (aH, .inl (cI, rm, .inl (nF Hh))), (aT, .inl (cJ, rm, .inr (.inl Tm))), (aB, .inl (cJ, rm, .inr (.inl Bt)))]) (va_runV (As := [.long (Bt j), .long ((Tm j) - (Tm (m_anc P (Hh j - ((Hh j) - 7)) j)))]) (rest := []) ⟨hx, hb, hml, hown, hts⟩ (c_R_next l D cI cJ cZ oR aQ pr (Bt j) ((Tm j) - (Tm (m_anc P (Hh j - ((Hh j) - 7)) j))) H.size) (cwV 2 hts gT_must_R_next_105 rfl rfl rfl (by decide +kernel) ⟨Nat.le_of_ble_eq_true rfl, Nat.le_of_ble_eq_true rfl⟩) (rw_preV (hP.sub [5, 6] rfl) hK (hD.sub [5, 6] (by decide) rfl) (va_recv hK hP (ci := 0) (q0 := 5) rfl rfl)) rfl rfl hl.1 rfl (lv_room (Nat.le_of_ble_eq_true rfl)) dT_must_68 ⟨Nat.le_of_ble_eq_true rfl, Nat.le_of_ble_eq_true rfl⟩) hP hD hS hA [5, 6] [0, 1, 2, 3, 4] rfl rfl (by decide) (by decide) (fun v9 w9 H locs hp9 hP hD hS => ?_)
      obtain ⟨rfl, rfl⟩ := hp9
      have hP : va_P D vwCl [(o, .inr (2, [.int (nI rm), .int (nI n), .int (nI bs), .ref aP, .ref aH, .ref aC, .ref aT, .ref aB, .ref aZ, .ref aW, .ref aR, .ref oR, .ref oW])), (aP, .inl (cI, rm, .inl (pF P))), (aH, .inl (cI, rm, .inl (nF Hh))), (aT, .inl (cJ, rm, .inr (.inl Tm))), (aB, .inl (cJ, rm, .inr (.inl Bt))), (oR, .inr (0, [.ref aQ])), (aQ, .inl (cJ, 9, .inr (.inl (m_pr (Bt j) ((Tm j) - (Tm (m_anc P (Hh j - ((Hh j) - 7)) j))) pr))))] H := hP
      have hD : va_D A [(o, .inr (2, [.int (nI rm), .int (nI n), .int (nI bs), .ref aP, .ref aH, .ref aC, .ref aT, .ref aB, .ref aZ, .ref aW, .ref aR, .ref oR, .ref oW])), (aP, .inl (cI, rm, .inl (pF P))), (aH, .inl (cI, rm, .inl (nF Hh))), (aT, .inl (cJ, rm, .inr (.inl Tm))), (aB, .inl (cJ, rm, .inr (.inl Bt))), (oR, .inr (0, [.ref aQ])), (aQ, .inl (cJ, 9, .inr (.inl (m_pr (Bt j) ((Tm j) - (Tm (m_anc P (Hh j - ((Hh j) - 7)) j))) pr))))] := hD
      refine W.eq (g2 := F0 m 71 ls [.long (m_next (m_pr (Bt j) ((Tm j) - (Tm (m_anc P (Hh j - ((Hh j) - 7)) j))) pr))]) rfl ?_
      exact rw_lret (w := [(o, .inr (2, [.int (nI rm), .int (nI n), .int (nI bs), .ref aP, .ref aH, .ref aC, .ref aT, .ref aB, .ref aZ, .ref aW, .ref aR, .ref oR, .ref oW])), (aP, .inl (cI, rm, .inl (pF P))), (aH, .inl (cI, rm, .inl (nF Hh))), (aT, .inl (cJ, rm, .inr (.inl Tm))), (aB, .inl (cJ, rm, .inr (.inl Bt))), (oR, .inr (0, [.ref aQ])), (aQ, .inl (cJ, 9, .inr (.inl (m_pr (Bt j) ((Tm j) - (Tm (m_anc P (Hh j - ((Hh j) - 7)) j))) pr))))]) hQ hx hb hr hlocks dT_must_71 (hP.sub [0, 1, 2, 3, 4, 5, 6] rfl) (hD.sub [0, 1, 2, 3, 4, 5, 6] (by decide) rfl) hS ⟨rfl, rfl⟩
    · skip
      rw [← nI_0] at c_25
      have c_25 : ¬ (((Hh j) + 1) % 8) = 0 := n_ne c_25
      omega
  · skip
    rw [← nI_0] at c_5
    have c_5 : 1 = 0 := n_eq c_5 (by omega) (by omega)
    omega

abbrev rm_c_sumWork : Room := { frames := 0, cells := 0, slots := 0, locals := 0 }
set_option maxRecDepth 100000 in
set_option maxHeartbeats 4000000 in
theorem c_sumWork (l : Launch) (D : va_G) (cI cJ cZ : ClassId) (o : Nat) (rm : Nat) (n : Nat) (bs : Nat) (aP : Nat) (aH : Nat) (aC : Nat) (aT : Nat) (aB : Nat) (aZ : Nat) (aW : Nat) (aR : Nat) (oR : Nat) (oW : Nat) (Wk : Nat → Int64) (q : Nat) (F : Nat → Int64) (x : Nat) (y : Nat) (hr3 : rm ≤ 300) (hx9 : x < rm) (hy9 : y < rm) : rw_C l yT_sumWork wT_sumWork rm_c_sumWork D vwCl (gT cI cJ cZ) [.ref o, .int (nI x), .int (nI y), .ref q] [(o, .inr (2, [.int (nI rm), .int (nI n), .int (nI bs), .ref aP, .ref aH, .ref aC, .ref aT, .ref aB, .ref aZ, .ref aW, .ref aR, .ref oR, .ref oW])), (aW, .inl (cJ, rm * 8, .inr (.inl Wk))), (q, .inl (cJ, 8, .inr (.inl F)))] (fun v9 w9 => v9 = none ∧ w9 = [(o, .inr (2, [.int (nI rm), .int (nI n), .int (nI bs), .ref aP, .ref aH, .ref aC, .ref aT, .ref aB, .ref aZ, .ref aW, .ref aR, .ref oR, .ref oW])), (aW, .inl (cJ, rm * 8, .inr (.inl (m_sum F x y Wk)))), (q, .inl (cJ, 8, .inr (.inl F)))]) 0 0 := by
  refine rw_of (cc := cT_sumWork) (maxL := 9) (ret := none) (by decide) rfl (Nat.le_of_ble_eq_true rfl) ?_
  intro p e s m args below meth c Q A ls hx hb hr hml hown hts hlocks hin hK hP hD hA hl hQ
  have hS : va_S A s.heap s.heap [] := va_S.rf
  have hl : lv_has ls 9 [(0, .ref o), (1, .int (nI x)), (2, .int (nI y)), (3, .ref q)] := hl
  have hown : s.vm.findClass RT = some m.cls := hown
  obtain ⟨H, hHe⟩ : ∃ H : Heap, H = s.heap := ⟨_, rfl⟩
  rw [← hHe] at hP
  have hS : va_S A s.heap H [] := by rw [hHe]; exact va_S.rf
  suffices h9 : W p l e rm_c_sumWork s m args below meth c H [] 0 0 Q (F0 m 0 ls []) by rw [hHe] at h9; exact h9
  clear hHe
  refine lv_lconst (v := 0) hx hb dT_sumWork_0 (by decide) ?_
  refine lv_lstore (lv' := [(4, .long 0), (0, .ref o), (1, .int (nI x)), (2, .int (nI y)), (3, .ref q)]) hx hb dT_sumWork_1 hl (by decide) rfl (fun ls hl => ?_)
  refine lv_bipush (v := nI 7) hx hb dT_sumWork_3 (by decide) ?_
  refine lv_istore (lv' := [(6, .int (nI 7)), (4, .long 0), (0, .ref o), (1, .int (nI x)), (2, .int (nI y)), (3, .ref q)]) hx hb dT_sumWork_5 hl (by decide) rfl (fun ls hl => ?_)
  have lp_7 : ∀ (n_7 : Nat) (k : Nat) (i : Int32) (g : Nat → Int64) (cy : Int64), (k < n_7) → (k ≤ 8) → (i = nI k + (-1)) → (m_sumL F x y k g cy = m_sumL F x y 8 Wk 0) → ∀ (H : Heap) (locs : List Loc), va_P D vwCl [(o, .inr (2, [.int (nI rm), .int (nI n), .int (nI bs), .ref aP, .ref aH, .ref aC, .ref aT, .ref aB, .ref aZ, .ref aW, .ref aR, .ref oR, .ref oW])), (aW, .inl (cJ, rm * 8, .inr (.inl g))), (q, .inl (cJ, 8, .inr (.inl F)))] H → va_D A [(o, .inr (2, [.int (nI rm), .int (nI n), .int (nI bs), .ref aP, .ref aH, .ref aC, .ref aT, .ref aB, .ref aZ, .ref aW, .ref aR, .ref oR, .ref oW])), (aW, .inl (cJ, rm * 8, .inr (.inl g))), (q, .inl (cJ, 8, .inr (.inl F)))] → va_S A s.heap H locs → ∀ (ls : Array Slot), lv_has ls 9 [(0, .ref o), (1, .int (nI x)), (2, .int (nI y)), (3, .ref q), (4, .long cy), (6, .int i)] → W p l e rm_c_sumWork s m args below meth c H locs 0 0 Q (F0 m 7 ls []) := by
    intro n_7
    induction n_7 with
    | zero => intro k i g cy hn h8 hi hg H locs hP hD hS ls hl; exact absurd hn (by omega)
    | succ n_7 ih_7 =>
      intro k i g cy hn h8 hi hg H locs hP hD hS ls hl
      refine lv_iload hx hb dT_sumWork_7 (lv_at hl 5 rfl) ?_
      refine lv_if_lt (tgt := 65) hx hb dT_sumWork_9 (by decide) (fun c_9 => ?_) (fun c_9 => ?_)
      · skip
        have hk0 : k = 0 := dn_0 hi c_9 (by omega)
        subst hk0
        exact rw_vret (w := [(o, .inr (2, [.int (nI rm), .int (nI n), .int (nI bs), .ref aP, .ref aH, .ref aC, .ref aT, .ref aB, .ref aZ, .ref aW, .ref aR, .ref oR, .ref oW])), (aW, .inl (cJ, rm * 8, .inr (.inl g))), (q, .inl (cJ, 8, .inr (.inl F)))]) hQ hx hb hr hlocks dT_sumWork_65 (hP.sub [0, 1, 2] rfl) (hD.sub [0, 1, 2] (by decide) rfl) hS ⟨rfl, by rw [show m_sum F x y Wk = g from hg.symm]⟩
      · skip
        obtain ⟨j, rfl, rfl⟩ := dn_s hi c_9
        refine lv_aload_n hx hb dT_sumWork_12 rfl (lv_at hl 0 rfl) ?_
        refine va_get (D := D) (ci := 2) (v := .ref aW) (C := RT) (T := TT) (N := 13) hx hb hts iT_sumWork_T hown hK hP 0 rfl rfl 9 (by decide) (hts (.fieldLink RT 36 "TreeDesk" "works" "[J") (by decide +kernel)) (fun _ h9 => h9) rfl dT_sumWork_13 ?_
        refine lv_iload_n hx hb dT_sumWork_16 rfl (lv_at hl 2 rfl) ?_
        refine lv_bipush (v := nI 8) hx hb dT_sumWork_17 (by decide) ?_
        refine lv_imul hx hb dT_sumWork_19 ?_
        refine tp_i (y := nI (y * 8)) (pk_mul _ _) ?_
        refine lv_iload hx hb dT_sumWork_20 (lv_at hl 5 rfl) ?_
        refine lv_iadd hx hb dT_sumWork_22 ?_
        refine tp_i (y := nI ((y * 8) + j)) (nI_add _ _) ?_
        refine ar_lld (j := (y * 8) + j) hx hb hK hP 1 1 rfl rfl dT_sumWork_23 (by omega) (by omega) ?_
        refine lv_aload_n hx hb dT_sumWork_24 rfl (lv_at hl 3 rfl) ?_
        refine lv_iload hx hb dT_sumWork_25 (lv_at hl 5 rfl) ?_
        refine ar_lld (j := j) hx hb hK hP 2 1 rfl rfl dT_sumWork_27 (by omega) (by omega) ?_
        refine lv_ladd hx hb dT_sumWork_28 ?_
        refine lv_lload hx hb dT_sumWork_29 (lv_at hl 4 rfl) ?_
        refine lv_ladd hx hb dT_sumWork_31 ?_
        refine lv_lstore (lv' := [(7, .long (((g ((y * 8) + j)) + (F j)) + cy)), (0, .ref o), (1, .int (nI x)), (2, .int (nI y)), (3, .ref q), (4, .long cy), (6, .int (nI j))]) hx hb dT_sumWork_32 hl (by decide) rfl (fun ls hl => ?_)
        refine lv_aload_n hx hb dT_sumWork_34 rfl (lv_at hl 1 rfl) ?_
        refine va_get (D := D) (ci := 2) (v := .ref aW) (C := RT) (T := TT) (N := 13) hx hb hts iT_sumWork_T hown hK hP 0 rfl rfl 9 (by decide) (hts (.fieldLink RT 36 "TreeDesk" "works" "[J") (by decide +kernel)) (fun _ h9 => h9) rfl dT_sumWork_35 ?_
        refine lv_iload_n hx hb dT_sumWork_38 rfl (lv_at hl 2 rfl) ?_
        refine lv_bipush (v := nI 8) hx hb dT_sumWork_39 (by decide) ?_
        refine lv_imul hx hb dT_sumWork_41 ?_
        refine tp_i (y := nI (x * 8)) (pk_mul _ _) ?_
        refine lv_iload hx hb dT_sumWork_42 (lv_at hl 6 rfl) ?_
        refine lv_iadd hx hb dT_sumWork_44 ?_
        refine tp_i (y := nI ((x * 8) + j)) (nI_add _ _) ?_
        refine lv_lload hx hb dT_sumWork_45 (lv_at hl 0 rfl) ?_
        refine lv_ldc2 (v := 4294967295) hx hb hown (hts (.constantLong RT 56 4294967295) (by decide +kernel)) dT_sumWork_47 ?_
        refine lv_land hx hb dT_sumWork_50 ?_
        refine ar_lst (j := (x * 8) + j) hx hb hK hP hD hS 1 1 rfl rfl dT_sumWork_51 (by omega) (by omega) (fun H locs hP hD hS => ?_)
        have hP : va_P D vwCl [(o, .inr (2, [.int (nI rm), .int (nI n), .int (nI bs), .ref aP, .ref aH, .ref aC, .ref aT, .ref aB, .ref aZ, .ref aW, .ref aR, .ref oR, .ref oW])), (aW, .inl (cJ, rm * 8, .inr (.inl (vp_updL g ((x * 8) + j) ((((g ((y * 8) + j)) + (F j)) + cy) &&& 4294967295))))), (q, .inl (cJ, 8, .inr (.inl F)))] H := hP
        have hD : va_D A [(o, .inr (2, [.int (nI rm), .int (nI n), .int (nI bs), .ref aP, .ref aH, .ref aC, .ref aT, .ref aB, .ref aZ, .ref aW, .ref aR, .ref oR, .ref oW])), (aW, .inl (cJ, rm * 8, .inr (.inl (vp_updL g ((x * 8) + j) ((((g ((y * 8) + j)) + (F j)) + cy) &&& 4294967295))))), (q, .inl (cJ, 8, .inr (.inl F)))] := hD
        refine lv_lload hx hb dT_sumWork_52 (lv_at hl 0 rfl) ?_
        refine lv_bipush (v := nI 32) hx hb dT_sumWork_54 (by decide) ?_
        refine lv_lushr (v := j_ushr (((g ((y * 8) + j)) + (F j)) + cy) (nI 32)) hx hb dT_sumWork_56 rfl ?_
        refine lv_lstore (lv' := [(4, .long (j_ushr (((g ((y * 8) + j)) + (F j)) + cy) (nI 32))), (7, .long (((g ((y * 8) + j)) + (F j)) + cy)), (0, .ref o), (1, .int (nI x)), (2, .int (nI y)), (3, .ref q), (6, .int (nI j))]) hx hb dT_sumWork_57 hl (by decide) rfl (fun ls hl => ?_)
        refine lv_iinc (v := (nI j) + (-1)) (lv' := [(6, .int ((nI j) + (-1))), (4, .long (j_ushr (((g ((y * 8) + j)) + (F j)) + cy) (nI 32))), (7, .long (((g ((y * 8) + j)) + (F j)) + cy)), (0, .ref o), (1, .int (nI x)), (2, .int (nI y)), (3, .ref q)]) hx hb dT_sumWork_59 hl (k := 6) rfl rfl (by decide) rfl (fun ls hl => ?_)
        refine lv_goto (tgt := 7) hx hb dT_sumWork_62 (by decide) ?_
        exact ih_7 j ((nI j) + (-1)) (vp_updL g ((x * 8) + j) ((((g ((y * 8) + j)) + (F j)) + cy) &&& 4294967295)) (j_ushr (((g ((y * 8) + j)) + (F j)) + cy) (nI 32)) (by omega) (by omega) rfl hg _ _ (hP.sub [0, 1, 2] rfl) (hD.sub [0, 1, 2] (by decide) rfl) hS ls (lv_sub hl [3, 4, 5, 6, 1, 0] rfl)
  exact lp_7 9 8 (nI 7) Wk 0 (by omega) (by omega) (pk_m1 7).symm rfl _ _ (hP.sub [0, 1, 2] rfl) (hD.sub [0, 1, 2] (by decide) rfl) hS ls (lv_sub hl [2, 3, 4, 5, 1, 0] rfl)

abbrev rm_c_spoilBehind : Room := { frames := 0, cells := 0, slots := 0, locals := 0 }
set_option maxRecDepth 100000 in
set_option maxHeartbeats 4000000 in
theorem c_spoilBehind (l : Launch) (D : va_G) (cI cJ cZ : ClassId) (o : Nat) (rm : Nat) (n : Nat) (bs : Nat) (aP : Nat) (aH : Nat) (aC : Nat) (aT : Nat) (aB : Nat) (aZ : Nat) (aW : Nat) (aR : Nat) (oR : Nat) (oW : Nat) (P : Nat → Nat) (Zb : Nat → Nat) (j : Nat) (hn3 : n ≤ rm) (hr3 : rm ≤ 300) (hj : j < n) (hz9 : ∀ x : Nat, Zb x < 2) (hpar : ∀ x : Nat, 0 < x → x < n → P x < x) : rw_C l yT_spoilBehind wT_spoilBehind rm_c_spoilBehind D vwCl (gT cI cJ cZ) [.ref o, .int (nI j)] [(o, .inr (2, [.int (nI rm), .int (nI n), .int (nI bs), .ref aP, .ref aH, .ref aC, .ref aT, .ref aB, .ref aZ, .ref aW, .ref aR, .ref oR, .ref oW])), (aP, .inl (cI, rm, .inl (pF P))), (aZ, .inl (cZ, rm, .inl (nF Zb)))] (fun v9 w9 => v9 = some (.int (nI ((m_spb P (n - (j + 1)) (j + 1) 0 Zb).2))) ∧ w9 = [(o, .inr (2, [.int (nI rm), .int (nI n), .int (nI bs), .ref aP, .ref aH, .ref aC, .ref aT, .ref aB, .ref aZ, .ref aW, .ref aR, .ref oR, .ref oW])), (aP, .inl (cI, rm, .inl (pF P))), (aZ, .inl (cZ, rm, .inl (nF ((m_spb P (n - (j + 1)) (j + 1) 0 Zb).1))))]) 0 0 := by
  refine rw_of (cc := cT_spoilBehind) (maxL := 4) (ret := some .int) (by decide) rfl (Nat.le_of_ble_eq_true rfl) ?_
  intro p e s m args below meth c Q A ls hx hb hr hml hown hts hlocks hin hK hP hD hA hl hQ
  have hS : va_S A s.heap s.heap [] := va_S.rf
  have hl : lv_has ls 4 [(0, .ref o), (1, .int (nI j))] := hl
  have hown : s.vm.findClass RT = some m.cls := hown
  obtain ⟨H, hHe⟩ : ∃ H : Heap, H = s.heap := ⟨_, rfl⟩
  rw [← hHe] at hP
  have hS : va_S A s.heap H [] := by rw [hHe]; exact va_S.rf
  suffices h9 : W p l e rm_c_spoilBehind s m args below meth c H [] 0 0 Q (F0 m 0 ls []) by rw [hHe] at h9; exact h9
  clear hHe
  refine lv_iconst (v := nI 0) hx hb dT_spoilBehind_0 (by decide) ?_
  refine lv_istore_n (lv' := [(2, .int (nI 0)), (0, .ref o), (1, .int (nI j))]) hx hb dT_spoilBehind_1 rfl hl (by decide) rfl (fun ls hl => ?_)
  refine lv_iload_n hx hb dT_spoilBehind_2 rfl (lv_at hl 2 rfl) ?_
  refine lv_iconst (v := nI 1) hx hb dT_spoilBehind_3 (by decide) ?_
  refine lv_iadd hx hb dT_spoilBehind_4 ?_
  refine tp_i (y := nI (j + 1)) (nI_add _ _) ?_
  refine lv_istore_n (lv' := [(3, .int (nI (j + 1))), (2, .int (nI 0)), (0, .ref o), (1, .int (nI j))]) hx hb dT_spoilBehind_5 rfl hl (by decide) rfl (fun ls hl => ?_)
  have lp_6 : ∀ (n_6 : Nat) (d i s9 : Nat) (z : Nat → Nat), (d < n_6) → (i + d = n) → (1 ≤ i) → (s9 ≤ i) → (∀ x : Nat, z x < 2) → (m_spb P d i s9 z = m_spb P (n - (j + 1)) (j + 1) 0 Zb) → ∀ (H : Heap) (locs : List Loc), va_P D vwCl [(o, .inr (2, [.int (nI rm), .int (nI n), .int (nI bs), .ref aP, .ref aH, .ref aC, .ref aT, .ref aB, .ref aZ, .ref aW, .ref aR, .ref oR, .ref oW])), (aP, .inl (cI, rm, .inl (pF P))), (aZ, .inl (cZ, rm, .inl (nF z)))] H → va_D A [(o, .inr (2, [.int (nI rm), .int (nI n), .int (nI bs), .ref aP, .ref aH, .ref aC, .ref aT, .ref aB, .ref aZ, .ref aW, .ref aR, .ref oR, .ref oW])), (aP, .inl (cI, rm, .inl (pF P))), (aZ, .inl (cZ, rm, .inl (nF z)))] → va_S A s.heap H locs → ∀ (ls : Array Slot), lv_has ls 4 [(0, .ref o), (2, .int (nI s9)), (3, .int (nI i))] → W p l e rm_c_spoilBehind s m args below meth c H locs 0 0 Q (F0 m 6 ls []) := by
    intro n_6
    induction n_6 with
    | zero => intro d i s9 z hn hd hi1 hs9 hz hg H locs hP hD hS ls hl; exact absurd hn (by omega)
    | succ n_6 ih_6 =>
      intro d i s9 z hn hd hi1 hs9 hz hg H locs hP hD hS ls hl
      refine lv_iload_n hx hb dT_spoilBehind_6 rfl (lv_at hl 2 rfl) ?_
      refine lv_aload_n hx hb dT_spoilBehind_7 rfl (lv_at hl 0 rfl) ?_
      refine va_get (D := D) (ci := 2) (v := .int (nI n)) (C := RT) (T := TT) (N := 13) hx hb hts iT_spoilBehind_T hown hK hP 0 rfl rfl 1 (by decide) (hts (.fieldLink RT 70 "TreeDesk" "count" "I") (by decide +kernel)) (fun _ h9 => h9) rfl dT_spoilBehind_8 ?_
      refine lv_icmp_ge (tgt := 53) hx hb dT_spoilBehind_11 (by decide) (fun c_11 => ?_) (fun c_11 => ?_)
      · skip
        have c_11 : n ≤ i := n_le c_11 (by omega) (by omega)
        have hd0 : d = 0 := by omega
        subst hd0
        have hz8 : m_spb P (n - (j + 1)) (j + 1) 0 Zb = (z, s9) := hg.symm.trans rfl
        refine lv_iload_n hx hb dT_spoilBehind_53 rfl (lv_at hl 1 rfl) ?_
        exact rw_iret (w := [(o, .inr (2, [.int (nI rm), .int (nI n), .int (nI bs), .ref aP, .ref aH, .ref aC, .ref aT, .ref aB, .ref aZ, .ref aW, .ref aR, .ref oR, .ref oW])), (aP, .inl (cI, rm, .inl (pF P))), (aZ, .inl (cZ, rm, .inl (nF z)))]) hQ hx hb hr hlocks dT_spoilBehind_54 (hP.sub [0, 1, 2] rfl) (hD.sub [0, 1, 2] (by decide) rfl) hS ⟨by rw [hz8], by rw [hz8]⟩
      · skip
        have c_11 : i < n := n_nle c_11 (by omega) (by omega)
        obtain ⟨d, rfl⟩ : ∃ d' : Nat, d = d' + 1 := ⟨d - 1, by omega⟩
        have hzi := hz i
        have hzp := hz (P i)
        refine lv_aload_n hx hb dT_spoilBehind_14 rfl (lv_at hl 0 rfl) ?_
        refine va_get (D := D) (ci := 2) (v := .ref aZ) (C := RT) (T := TT) (N := 13) hx hb hts iT_spoilBehind_T hown hK hP 0 rfl rfl 8 (by decide) (hts (.fieldLink RT 30 "TreeDesk" "bad" "[Z") (by decide +kernel)) (fun _ h9 => h9) rfl dT_spoilBehind_15 ?_
        refine lv_iload_n hx hb dT_spoilBehind_18 rfl (lv_at hl 2 rfl) ?_
        refine ar_zld (j := i) hx hb hK hP 2 2 rfl rfl dT_spoilBehind_19 (by omega) (by omega) ?_
        refine tp_i (y := nI (z i)) rfl ?_
        refine lv_if_ne (tgt := 47) hx hb dT_spoilBehind_20 (by decide) (fun c_20 => ?_) (fun c_20 => ?_)
        · skip
          rw [← nI_0] at c_20
          have c_20 : ¬ (z i) = 0 := n_ne c_20
          refine lv_iinc (v := nI (i + 1)) (lv' := [(3, .int (nI (i + 1))), (0, .ref o), (2, .int (nI s9))]) hx hb dT_spoilBehind_47 hl (k := 2) rfl (nI_add _ 1) (by decide) rfl (fun ls hl => ?_)
          refine lv_goto (tgt := 6) hx hb dT_spoilBehind_50 (by decide) ?_
          exact ih_6 d (i + 1) s9 z (by omega) (by omega) (by omega) (by omega) hz (by rw [← hg, m_spb, if_neg c_20]) _ _ (hP.sub [0, 1, 2] rfl) (hD.sub [0, 1, 2] (by decide) rfl) hS ls (lv_sub hl [1, 2, 0] rfl)
        · skip
          rw [← nI_0] at c_20
          have c_20 : (z i) = 0 := n_eq c_20 (by omega) (by omega)
          refine lv_aload_n hx hb dT_spoilBehind_23 rfl (lv_at hl 0 rfl) ?_
          refine va_get (D := D) (ci := 2) (v := .ref aZ) (C := RT) (T := TT) (N := 13) hx hb hts iT_spoilBehind_T hown hK hP 0 rfl rfl 8 (by decide) (hts (.fieldLink RT 30 "TreeDesk" "bad" "[Z") (by decide +kernel)) (fun _ h9 => h9) rfl dT_spoilBehind_24 ?_
          refine lv_aload_n hx hb dT_spoilBehind_27 rfl (lv_at hl 0 rfl) ?_
          refine va_get (D := D) (ci := 2) (v := .ref aP) (C := RT) (T := TT) (N := 13) hx hb hts iT_spoilBehind_T hown hK hP 0 rfl rfl 3 (by decide) (hts (.fieldLink RT 13 "TreeDesk" "parents" "[I") (by decide +kernel)) (fun _ h9 => h9) rfl dT_spoilBehind_28 ?_
          refine lv_iload_n hx hb dT_spoilBehind_31 rfl (lv_at hl 2 rfl) ?_
          have hpi := hpar i (by omega) (by omega)
          refine ar_ild (j := i) hx hb hK hP 1 0 rfl rfl dT_spoilBehind_32 (by omega) (by omega) ?_
          refine tp_i (y := nI (P i)) (pF_s (by omega)) ?_
          refine ar_zld (j := P i) hx hb hK hP 2 2 rfl rfl dT_spoilBehind_33 (by omega) (by omega) ?_
          refine tp_i (y := nI (z (P i))) rfl ?_
          refine lv_if_eq (tgt := 47) hx hb dT_spoilBehind_34 (by decide) (fun c_34 => ?_) (fun c_34 => ?_)
          · skip
            rw [← nI_0] at c_34
            have c_34 : (z (P i)) = 0 := n_eq c_34 (by omega) (by omega)
            refine lv_iinc (v := nI (i + 1)) (lv' := [(3, .int (nI (i + 1))), (0, .ref o), (2, .int (nI s9))]) hx hb dT_spoilBehind_47 hl (k := 2) rfl (nI_add _ 1) (by decide) rfl (fun ls hl => ?_)
            refine lv_goto (tgt := 6) hx hb dT_spoilBehind_50 (by decide) ?_
            exact ih_6 d (i + 1) s9 z (by omega) (by omega) (by omega) (by omega) hz (by rw [← hg, m_spb, if_pos c_20, if_pos c_34]) _ _ (hP.sub [0, 1, 2] rfl) (hD.sub [0, 1, 2] (by decide) rfl) hS ls (lv_sub hl [1, 2, 0] rfl)
          · skip
            rw [← nI_0] at c_34
            have c_34 : ¬ (z (P i)) = 0 := n_ne c_34
            refine lv_aload_n hx hb dT_spoilBehind_37 rfl (lv_at hl 0 rfl) ?_
            refine va_get (D := D) (ci := 2) (v := .ref aZ) (C := RT) (T := TT) (N := 13) hx hb hts iT_spoilBehind_T hown hK hP 0 rfl rfl 8 (by decide) (hts (.fieldLink RT 30 "TreeDesk" "bad" "[Z") (by decide +kernel)) (fun _ h9 => h9) rfl dT_spoilBehind_38 ?_
            refine lv_iload_n hx hb dT_spoilBehind_41 rfl (lv_at hl 2 rfl) ?_
            refine lv_iconst (v := nI 1) hx hb dT_spoilBehind_42 (by decide) ?_
            refine ar_zst (j := i) (x' := nI 1) hx hb hK hP hD hS 2 2 rfl rfl dT_spoilBehind_43 (by omega) (by omega) rfl (fun H locs hP hD hS => ?_)
            have hP : va_P D vwCl [(o, .inr (2, [.int (nI rm), .int (nI n), .int (nI bs), .ref aP, .ref aH, .ref aC, .ref aT, .ref aB, .ref aZ, .ref aW, .ref aR, .ref oR, .ref oW])), (aP, .inl (cI, rm, .inl (pF P))), (aZ, .inl (cZ, rm, .inl (upd (nF z) i (nI 1))))] H := hP
            have hD : va_D A [(o, .inr (2, [.int (nI rm), .int (nI n), .int (nI bs), .ref aP, .ref aH, .ref aC, .ref aT, .ref aB, .ref aZ, .ref aW, .ref aR, .ref oR, .ref oW])), (aP, .inl (cI, rm, .inl (pF P))), (aZ, .inl (cZ, rm, .inl (upd (nF z) i (nI 1))))] := hD
            have e_w43 : upd (nF z) i (nI 1) = nF (updN z i 1) := nF_u z i 1
            rw [e_w43] at hP hD
            refine lv_iinc (v := nI (s9 + 1)) (lv' := [(2, .int (nI (s9 + 1))), (0, .ref o), (3, .int (nI i))]) hx hb dT_spoilBehind_44 hl (k := 1) rfl (nI_add _ 1) (by decide) rfl (fun ls hl => ?_)
            refine lv_iinc (v := nI (i + 1)) (lv' := [(3, .int (nI (i + 1))), (2, .int (nI (s9 + 1))), (0, .ref o)]) hx hb dT_spoilBehind_47 hl (k := 2) rfl (nI_add _ 1) (by decide) rfl (fun ls hl => ?_)
            refine lv_goto (tgt := 6) hx hb dT_spoilBehind_50 (by decide) ?_
            exact ih_6 d (i + 1) (s9 + 1) (updN z i 1) (by omega) (by omega) (by omega) (by omega) (updN_2 hz) (by rw [← hg, m_spb, if_pos c_20, if_neg c_34]) _ _ (hP.sub [0, 1, 2] rfl) (hD.sub [0, 1, 2] (by decide) rfl) hS ls (lv_sub hl [2, 1, 0] rfl)
  exact lp_6 (n + 1) (n - (j + 1)) (j + 1) 0 Zb (by omega) (by omega) (by omega) (by omega) hz9 rfl _ _ (hP.sub [0, 1, 2] rfl) (hD.sub [0, 1, 2] (by decide) rfl) hS ls (lv_sub hl [2, 1, 0] rfl)

abbrev rm_c_spoil_nob : Room := { frames := 2, cells := 0, slots := 0, locals := 49 }
set_option maxRecDepth 100000 in
set_option maxHeartbeats 4000000 in
theorem c_spoil_nob (l : Launch) (D : va_G) (cI cJ cZ : ClassId) (o : Nat) (rm : Nat) (n : Nat) (bs : Nat) (aP : Nat) (aH : Nat) (aC : Nat) (aT : Nat) (aB : Nat) (aZ : Nat) (aW : Nat) (aR : Nat) (oR : Nat) (oW : Nat) (x : Int32) (hx9 : ¬ (0 ≤ x ∧ x < nI n)) : ro_C l yT_spoil wT_spoil rm_c_spoil_nob D vwCl (gT cI cJ cZ) [.ref o, .int x] [(o, .inr (2, [.int (nI rm), .int (nI n), .int (nI bs), .ref aP, .ref aH, .ref aC, .ref aT, .ref aB, .ref aZ, .ref aW, .ref aR, .ref oR, .ref oW]))] (some (.int (nI 0))) := by
  refine ro_of (cc := cT_spoil) (maxL := 3) (ret := some .int) (by decide) rfl (Nat.le_of_ble_eq_true rfl) ?_
  intro p e s m args below meth c Q ls hx hb hr hml hown hts hlocks hK hP hl hQ
  have hl : lv_has ls 3 [(0, .ref o), (1, .int x)] := hl
  have hown : s.vm.findClass RT = some m.cls := hown
  refine lv_aload_n hx hb dT_spoil_0 rfl (lv_at hl 0 rfl) ?_
  refine lv_iload_n hx hb dT_spoil_1 rfl (lv_at hl 1 rfl) ?_
  refine ro_ki (va_runV (As := [.int x]) (rest := []) ⟨hx, hb, hml, hown, hts⟩ (c_isBlock_no l D cI cJ cZ o rm n bs aP aH aC aT aB aZ aW aR oR oW x hx9) (cwV 1 hts gT_spoil_T_isBlock_76 rfl rfl rfl (by decide +kernel) ⟨Nat.le_of_ble_eq_true rfl, Nat.le_of_ble_eq_true rfl⟩) (ro_preV (hP.sub [0] rfl) hK (va_recv hK hP (ci := 2) (q0 := 0) rfl rfl)) rfl rfl hl.1 rfl (lv_room (Nat.le_of_ble_eq_true rfl)) dT_spoil_2 ⟨Nat.le_of_ble_eq_true rfl, Nat.le_of_ble_eq_true rfl⟩) ?_
  refine lv_if_eq (tgt := 21) hx hb dT_spoil_5 (by decide) (fun c_5 => ?_) (fun c_5 => ?_)
  · skip
    rw [← nI_0] at c_5
    have c_5 : 0 = 0 := n_eq c_5 (by omega) (by omega)
    refine lv_iconst (v := nI 0) hx hb dT_spoil_21 (by decide) ?_
    exact ro_iret hQ hx hb hr hlocks dT_spoil_22 rfl
  · skip
    rw [← nI_0] at c_5
    have c_5 : ¬ 0 = 0 := n_ne c_5
    omega

abbrev rm_c_spoil_root : Room := { frames := 2, cells := 0, slots := 0, locals := 49 }
set_option maxRecDepth 100000 in
set_option maxHeartbeats 4000000 in
theorem c_spoil_root (l : Launch) (D : va_G) (cI cJ cZ : ClassId) (o : Nat) (rm : Nat) (n : Nat) (bs : Nat) (aP : Nat) (aH : Nat) (aC : Nat) (aT : Nat) (aB : Nat) (aZ : Nat) (aW : Nat) (aR : Nat) (oR : Nat) (oW : Nat) (hn9 : n ≤ 300) (hn1 : 0 < n) : ro_C l yT_spoil wT_spoil rm_c_spoil_root D vwCl (gT cI cJ cZ) [.ref o, .int (nI 0)] [(o, .inr (2, [.int (nI rm), .int (nI n), .int (nI bs), .ref aP, .ref aH, .ref aC, .ref aT, .ref aB, .ref aZ, .ref aW, .ref aR, .ref oR, .ref oW]))] (some (.int (nI 0))) := by
  refine ro_of (cc := cT_spoil) (maxL := 3) (ret := some .int) (by decide) rfl (Nat.le_of_ble_eq_true rfl) ?_
  intro p e s m args below meth c Q ls hx hb hr hml hown hts hlocks hK hP hl hQ
  have hl : lv_has ls 3 [(0, .ref o), (1, .int (nI 0))] := hl
  have hown : s.vm.findClass RT = some m.cls := hown
  refine lv_aload_n hx hb dT_spoil_0 rfl (lv_at hl 0 rfl) ?_
  refine lv_iload_n hx hb dT_spoil_1 rfl (lv_at hl 1 rfl) ?_
  refine ro_ki (va_runV (As := [.int (nI 0)]) (rest := []) ⟨hx, hb, hml, hown, hts⟩ (c_isBlock_ok l D cI cJ cZ o rm n bs aP aH aC aT aB aZ aW aR oR oW 0 (by omega) (by omega)) (cwV 1 hts gT_spoil_T_isBlock_76 rfl rfl rfl (by decide +kernel) ⟨Nat.le_of_ble_eq_true rfl, Nat.le_of_ble_eq_true rfl⟩) (ro_preV (hP.sub [0] rfl) hK (va_recv hK hP (ci := 2) (q0 := 0) rfl rfl)) rfl rfl hl.1 rfl (lv_room (Nat.le_of_ble_eq_true rfl)) dT_spoil_2 ⟨Nat.le_of_ble_eq_true rfl, Nat.le_of_ble_eq_true rfl⟩) ?_
  refine lv_if_eq (tgt := 21) hx hb dT_spoil_5 (by decide) (fun c_5 => ?_) (fun c_5 => ?_)
  · skip
    rw [← nI_0] at c_5
    have c_5 : 1 = 0 := n_eq c_5 (by omega) (by omega)
    omega
  · skip
    rw [← nI_0] at c_5
    have c_5 : ¬ 1 = 0 := n_ne c_5
    refine lv_iload_n hx hb dT_spoil_8 rfl (lv_at hl 1 rfl) ?_
    refine lv_if_eq (tgt := 21) hx hb dT_spoil_9 (by decide) (fun c_9 => ?_) (fun c_9 => ?_)
    · skip
      rw [← nI_0] at c_9
      have c_9 : 0 = 0 := n_eq c_9 (by omega) (by omega)
      refine lv_iconst (v := nI 0) hx hb dT_spoil_21 (by decide) ?_
      exact ro_iret hQ hx hb hr hlocks dT_spoil_22 rfl
    · skip
      rw [← nI_0] at c_9
      have c_9 : ¬ 0 = 0 := n_ne c_9
      omega

abbrev rm_c_spoil_bad : Room := { frames := 2, cells := 0, slots := 0, locals := 49 }
set_option maxRecDepth 100000 in
set_option maxHeartbeats 4000000 in
theorem c_spoil_bad (l : Launch) (D : va_G) (cI cJ cZ : ClassId) (o : Nat) (rm : Nat) (n : Nat) (bs : Nat) (aP : Nat) (aH : Nat) (aC : Nat) (aT : Nat) (aB : Nat) (aZ : Nat) (aW : Nat) (aR : Nat) (oR : Nat) (oW : Nat) (Zb : Nat → Nat) (j : Nat) (hn3 : n ≤ rm) (hr3 : rm ≤ 300) (hj : j < n) (hz1 : ¬ Zb j = 0) (hz2 : Zb j < 2) : ro_C l yT_spoil wT_spoil rm_c_spoil_bad D vwCl (gT cI cJ cZ) [.ref o, .int (nI j)] [(o, .inr (2, [.int (nI rm), .int (nI n), .int (nI bs), .ref aP, .ref aH, .ref aC, .ref aT, .ref aB, .ref aZ, .ref aW, .ref aR, .ref oR, .ref oW])), (aZ, .inl (cZ, rm, .inl (nF Zb)))] (some (.int (nI 0))) := by
  refine ro_of (cc := cT_spoil) (maxL := 3) (ret := some .int) (by decide) rfl (Nat.le_of_ble_eq_true rfl) ?_
  intro p e s m args below meth c Q ls hx hb hr hml hown hts hlocks hK hP hl hQ
  have hl : lv_has ls 3 [(0, .ref o), (1, .int (nI j))] := hl
  have hown : s.vm.findClass RT = some m.cls := hown
  refine lv_aload_n hx hb dT_spoil_0 rfl (lv_at hl 0 rfl) ?_
  refine lv_iload_n hx hb dT_spoil_1 rfl (lv_at hl 1 rfl) ?_
  refine ro_ki (va_runV (As := [.int (nI j)]) (rest := []) ⟨hx, hb, hml, hown, hts⟩ (c_isBlock_ok l D cI cJ cZ o rm n bs aP aH aC aT aB aZ aW aR oR oW j (by omega) (by omega)) (cwV 1 hts gT_spoil_T_isBlock_76 rfl rfl rfl (by decide +kernel) ⟨Nat.le_of_ble_eq_true rfl, Nat.le_of_ble_eq_true rfl⟩) (ro_preV (hP.sub [0] rfl) hK (va_recv hK hP (ci := 2) (q0 := 0) rfl rfl)) rfl rfl hl.1 rfl (lv_room (Nat.le_of_ble_eq_true rfl)) dT_spoil_2 ⟨Nat.le_of_ble_eq_true rfl, Nat.le_of_ble_eq_true rfl⟩) ?_
  refine lv_if_eq (tgt := 21) hx hb dT_spoil_5 (by decide) (fun c_5 => ?_) (fun c_5 => ?_)
  · skip
    rw [← nI_0] at c_5
    have c_5 : 1 = 0 := n_eq c_5 (by omega) (by omega)
    omega
  · skip
    rw [← nI_0] at c_5
    have c_5 : ¬ 1 = 0 := n_ne c_5
    refine lv_iload_n hx hb dT_spoil_8 rfl (lv_at hl 1 rfl) ?_
    refine lv_if_eq (tgt := 21) hx hb dT_spoil_9 (by decide) (fun c_9 => ?_) (fun c_9 => ?_)
    · skip
      rw [← nI_0] at c_9
      have c_9 : j = 0 := n_eq c_9 (by omega) (by omega)
      refine lv_iconst (v := nI 0) hx hb dT_spoil_21 (by decide) ?_
      exact ro_iret hQ hx hb hr hlocks dT_spoil_22 rfl
    · skip
      rw [← nI_0] at c_9
      have c_9 : ¬ j = 0 := n_ne c_9
      refine lv_aload_n hx hb dT_spoil_12 rfl (lv_at hl 0 rfl) ?_
      refine va_get (D := D) (ci := 2) (v := .ref aZ) (C := RT) (T := TT) (N := 13) hx hb hts iT_spoil_T hown hK hP 0 rfl rfl 8 (by decide) (hts (.fieldLink RT 30 "TreeDesk" "bad" "[Z") (by decide +kernel)) (fun _ h9 => h9) rfl dT_spoil_13 ?_
      refine lv_iload_n hx hb dT_spoil_16 rfl (lv_at hl 1 rfl) ?_
      refine ar_zld (j := j) hx hb hK hP 1 2 rfl rfl dT_spoil_17 (by omega) (by omega) ?_
      refine tp_i (y := nI (Zb j)) rfl ?_
      refine lv_if_eq (tgt := 23) hx hb dT_spoil_18 (by decide) (fun c_18 => ?_) (fun c_18 => ?_)
      · skip
        rw [← nI_0] at c_18
        have c_18 : (Zb j) = 0 := n_eq c_18 (by omega) (by omega)
        omega
      · skip
        rw [← nI_0] at c_18
        have c_18 : ¬ (Zb j) = 0 := n_ne c_18
        refine lv_iconst (v := nI 0) hx hb dT_spoil_21 (by decide) ?_
        exact ro_iret hQ hx hb hr hlocks dT_spoil_22 rfl

abbrev rm_c_spoil_ok : Room := { frames := 2, cells := 0, slots := 0, locals := 49 }
set_option maxRecDepth 100000 in
set_option maxHeartbeats 4000000 in
theorem c_spoil_ok (l : Launch) (D : va_G) (cI cJ cZ : ClassId) (o : Nat) (rm : Nat) (n : Nat) (bs : Nat) (aP : Nat) (aH : Nat) (aC : Nat) (aT : Nat) (aB : Nat) (aZ : Nat) (aW : Nat) (aR : Nat) (oR : Nat) (oW : Nat) (P : Nat → Nat) (Zb : Nat → Nat) (Wk : Nat → Int64) (j : Nat) (hn3 : n ≤ rm) (hr3 : rm ≤ 300) (hj : j < n) (hj0 : 0 < j) (hbs : bs < n) (hz0 : Zb j = 0) (hz9 : ∀ x : Nat, Zb x < 2) (hpar : ∀ x : Nat, 0 < x → x < n → P x < x) : rw_C l yT_spoil wT_spoil rm_c_spoil_ok D vwCl (gT cI cJ cZ) [.ref o, .int (nI j)] [(o, .inr (2, [.int (nI rm), .int (nI n), .int (nI bs), .ref aP, .ref aH, .ref aC, .ref aT, .ref aB, .ref aZ, .ref aW, .ref aR, .ref oR, .ref oW])), (aP, .inl (cI, rm, .inl (pF P))), (aZ, .inl (cZ, rm, .inl (nF Zb))), (aW, .inl (cJ, rm * 8, .inr (.inl Wk)))] (fun v9 w9 => v9 = some (.int (nI (1 + (m_spb P (n - (j + 1)) (j + 1) 0 (updN Zb j 1)).2))) ∧ w9 = [(o, .inr (2, [.int (nI rm), .int (nI n), .int (nI (if (m_spb P (n - (j + 1)) (j + 1) 0 (updN Zb j 1)).1 bs = 0 then bs else m_best (m_spb P (n - (j + 1)) (j + 1) 0 (updN Zb j 1)).1 Wk (n - 1) 1 0)), .ref aP, .ref aH, .ref aC, .ref aT, .ref aB, .ref aZ, .ref aW, .ref aR, .ref oR, .ref oW])), (aP, .inl (cI, rm, .inl (pF P))), (aZ, .inl (cZ, rm, .inl (nF ((m_spb P (n - (j + 1)) (j + 1) 0 (updN Zb j 1)).1)))), (aW, .inl (cJ, rm * 8, .inr (.inl Wk)))]) 0 0 := by
  refine rw_of (cc := cT_spoil) (maxL := 3) (ret := some .int) (by decide) rfl (Nat.le_of_ble_eq_true rfl) ?_
  intro p e s m args below meth c Q A ls hx hb hr hml hown hts hlocks hin hK hP hD hA hl hQ
  have hS : va_S A s.heap s.heap [] := va_S.rf
  have hl : lv_has ls 3 [(0, .ref o), (1, .int (nI j))] := hl
  have hown : s.vm.findClass RT = some m.cls := hown
  obtain ⟨H, hHe⟩ : ∃ H : Heap, H = s.heap := ⟨_, rfl⟩
  rw [← hHe] at hP
  have hS : va_S A s.heap H [] := by rw [hHe]; exact va_S.rf
  suffices h9 : W p l e rm_c_spoil_ok s m args below meth c H [] 0 0 Q (F0 m 0 ls []) by rw [hHe] at h9; exact h9
  clear hHe
  refine lv_aload_n hx hb dT_spoil_0 rfl (lv_at hl 0 rfl) ?_
  refine lv_iload_n hx hb dT_spoil_1 rfl (lv_at hl 1 rfl) ?_
  refine ro_ki (va_runV (As := [.int (nI j)]) (rest := []) ⟨hx, hb, hml, hown, hts⟩ (c_isBlock_ok l D cI cJ cZ o rm n bs aP aH aC aT aB aZ aW aR oR oW j (by omega) (by omega)) (cwV 1 hts gT_spoil_T_isBlock_76 rfl rfl rfl (by decide +kernel) ⟨Nat.le_of_ble_eq_true rfl, Nat.le_of_ble_eq_true rfl⟩) (ro_preV (hP.sub [0] rfl) hK (va_recv hK hP (ci := 2) (q0 := 0) rfl rfl)) rfl rfl hl.1 rfl (lv_room (Nat.le_of_ble_eq_true rfl)) dT_spoil_2 ⟨Nat.le_of_ble_eq_true rfl, Nat.le_of_ble_eq_true rfl⟩) ?_
  refine lv_if_eq (tgt := 21) hx hb dT_spoil_5 (by decide) (fun c_5 => ?_) (fun c_5 => ?_)
  · skip
    rw [← nI_0] at c_5
    have c_5 : 1 = 0 := n_eq c_5 (by omega) (by omega)
    omega
  · skip
    rw [← nI_0] at c_5
    have c_5 : ¬ 1 = 0 := n_ne c_5
    refine lv_iload_n hx hb dT_spoil_8 rfl (lv_at hl 1 rfl) ?_
    refine lv_if_eq (tgt := 21) hx hb dT_spoil_9 (by decide) (fun c_9 => ?_) (fun c_9 => ?_)
    · skip
      rw [← nI_0] at c_9
      have c_9 : j = 0 := n_eq c_9 (by omega) (by omega)
      omega
    · skip
      rw [← nI_0] at c_9
      have c_9 : ¬ j = 0 := n_ne c_9
      refine lv_aload_n hx hb dT_spoil_12 rfl (lv_at hl 0 rfl) ?_
      refine va_get (D := D) (ci := 2) (v := .ref aZ) (C := RT) (T := TT) (N := 13) hx hb hts iT_spoil_T hown hK hP 0 rfl rfl 8 (by decide) (hts (.fieldLink RT 30 "TreeDesk" "bad" "[Z") (by decide +kernel)) (fun _ h9 => h9) rfl dT_spoil_13 ?_
      refine lv_iload_n hx hb dT_spoil_16 rfl (lv_at hl 1 rfl) ?_
      refine ar_zld (j := j) hx hb hK hP 2 2 rfl rfl dT_spoil_17 (by omega) (by omega) ?_
      refine tp_i (y := nI (Zb j)) rfl ?_
      refine lv_if_eq (tgt := 23) hx hb dT_spoil_18 (by decide) (fun c_18 => ?_) (fun c_18 => ?_)
      · skip
        rw [← nI_0] at c_18
        have c_18 : (Zb j) = 0 := n_eq c_18 (by omega) (by omega)
        refine lv_aload_n hx hb dT_spoil_23 rfl (lv_at hl 0 rfl) ?_
        refine va_get (D := D) (ci := 2) (v := .ref aZ) (C := RT) (T := TT) (N := 13) hx hb hts iT_spoil_T hown hK hP 0 rfl rfl 8 (by decide) (hts (.fieldLink RT 30 "TreeDesk" "bad" "[Z") (by decide +kernel)) (fun _ h9 => h9) rfl dT_spoil_24 ?_
        refine lv_iload_n hx hb dT_spoil_27 rfl (lv_at hl 1 rfl) ?_
        refine lv_iconst (v := nI 1) hx hb dT_spoil_28 (by decide) ?_
        refine ar_zst (j := j) (x' := nI 1) hx hb hK hP hD hS 2 2 rfl rfl dT_spoil_29 (by omega) (by omega) rfl (fun H locs hP hD hS => ?_)
        have hP : va_P D vwCl [(o, .inr (2, [.int (nI rm), .int (nI n), .int (nI bs), .ref aP, .ref aH, .ref aC, .ref aT, .ref aB, .ref aZ, .ref aW, .ref aR, .ref oR, .ref oW])), (aP, .inl (cI, rm, .inl (pF P))), (aZ, .inl (cZ, rm, .inl (upd (nF Zb) j (nI 1)))), (aW, .inl (cJ, rm * 8, .inr (.inl Wk)))] H := hP
        have hD : va_D A [(o, .inr (2, [.int (nI rm), .int (nI n), .int (nI bs), .ref aP, .ref aH, .ref aC, .ref aT, .ref aB, .ref aZ, .ref aW, .ref aR, .ref oR, .ref oW])), (aP, .inl (cI, rm, .inl (pF P))), (aZ, .inl (cZ, rm, .inl (upd (nF Zb) j (nI 1)))), (aW, .inl (cJ, rm * 8, .inr (.inl Wk)))] := hD
        have e_w29 : upd (nF Zb) j (nI 1) = nF (updN Zb j 1) := nF_u Zb j 1
        rw [e_w29] at hP hD
        refine lv_iconst (v := nI 1) hx hb dT_spoil_30 (by decide) ?_
        refine lv_aload_n hx hb dT_spoil_31 rfl (lv_at hl 0 rfl) ?_
        refine lv_iload_n hx hb dT_spoil_32 rfl (lv_at hl 1 rfl) ?_
        refine rw_k (wc := [(o, .inr (2, [.int (nI rm), .int (nI n), .int (nI bs), .ref aP, .ref aH, .ref aC, .ref aT, .ref aB, .ref aZ, .ref aW, .ref aR, .ref oR, .ref oW])), (aP, .inl (cI, rm, .inl (pF P))), (aZ, .inl (cZ, rm, .inl (nF (updN Zb j 1))))]) (wr := [(aW, .inl (cJ, rm * 8, .inr (.inl Wk)))]) (va_runV (As := [.int (nI j)]) (rest := [.int (nI 1)]) ⟨hx, hb, hml, hown, hts⟩ (c_spoilBehind l D cI cJ cZ o rm n bs aP aH aC aT aB aZ aW aR oR oW P (updN Zb j 1) j (by omega) (by omega) (by omega) (updN_2 hz9) hpar H.size) (cwV 1 hts gT_spoil_T_spoilBehind_91 rfl rfl rfl (by decide +kernel) ⟨Nat.le_of_ble_eq_true rfl, Nat.le_of_ble_eq_true rfl⟩) (rw_preV (hP.sub [0, 1, 2] rfl) hK (hD.sub [0, 1, 2] (by decide) rfl) (va_recv hK hP (ci := 2) (q0 := 0) rfl rfl)) rfl rfl hl.1 rfl (lv_room (Nat.le_of_ble_eq_true rfl)) dT_spoil_33 ⟨Nat.le_of_ble_eq_true rfl, Nat.le_of_ble_eq_true rfl⟩) hP hD hS hA [0, 1, 2] [3] rfl rfl (by decide) (by decide) (fun v9 w9 H locs hp9 hP hD hS => ?_)
        obtain ⟨rfl, rfl⟩ := hp9
        have hP : va_P D vwCl [(aW, .inl (cJ, rm * 8, .inr (.inl Wk))), (o, .inr (2, [.int (nI rm), .int (nI n), .int (nI bs), .ref aP, .ref aH, .ref aC, .ref aT, .ref aB, .ref aZ, .ref aW, .ref aR, .ref oR, .ref oW])), (aP, .inl (cI, rm, .inl (pF P))), (aZ, .inl (cZ, rm, .inl (nF ((m_spb P (n - (j + 1)) (j + 1) 0 (updN Zb j 1)).1))))] H := hP
        have hD : va_D A [(aW, .inl (cJ, rm * 8, .inr (.inl Wk))), (o, .inr (2, [.int (nI rm), .int (nI n), .int (nI bs), .ref aP, .ref aH, .ref aC, .ref aT, .ref aB, .ref aZ, .ref aW, .ref aR, .ref oR, .ref oW])), (aP, .inl (cI, rm, .inl (pF P))), (aZ, .inl (cZ, rm, .inl (nF ((m_spb P (n - (j + 1)) (j + 1) 0 (updN Zb j 1)).1))))] := hD
        refine W.eq (g2 := F0 m 36 ls [.int (nI ((m_spb P (n - (j + 1)) (j + 1) 0 (updN Zb j 1)).2)), .int (nI 1)]) rfl ?_
        refine lv_iadd hx hb dT_spoil_36 ?_
        refine tp_i (y := nI (1 + ((m_spb P (n - (j + 1)) (j + 1) 0 (updN Zb j 1)).2))) (nI_add _ _) ?_
        refine lv_istore_n (lv' := [(2, .int (nI (1 + ((m_spb P (n - (j + 1)) (j + 1) 0 (updN Zb j 1)).2)))), (0, .ref o), (1, .int (nI j))]) hx hb dT_spoil_37 rfl hl (by decide) rfl (fun ls hl => ?_)
        refine lv_aload_n hx hb dT_spoil_38 rfl (lv_at hl 1 rfl) ?_
        refine va_get (D := D) (ci := 2) (v := .ref aZ) (C := RT) (T := TT) (N := 13) hx hb hts iT_spoil_T hown hK hP 1 rfl rfl 8 (by decide) (hts (.fieldLink RT 30 "TreeDesk" "bad" "[Z") (by decide +kernel)) (fun _ h9 => h9) rfl dT_spoil_39 ?_
        refine lv_aload_n hx hb dT_spoil_42 rfl (lv_at hl 1 rfl) ?_
        refine va_get (D := D) (ci := 2) (v := .int (nI bs)) (C := RT) (T := TT) (N := 13) hx hb hts iT_spoil_T hown hK hP 1 rfl rfl 2 (by decide) (hts (.fieldLink RT 73 "TreeDesk" "best" "I") (by decide +kernel)) (fun _ h9 => h9) rfl dT_spoil_43 ?_
        have hzb := m_spb_2 (P := P) (d := n - (j + 1)) (i := j + 1) (s := 0) (updN_2 (i := j) hz9) bs
        refine ar_zld (j := bs) hx hb hK hP 3 2 rfl rfl dT_spoil_46 (by omega) (by omega) ?_
        refine tp_i (y := nI ((m_spb P (n - (j + 1)) (j + 1) 0 (updN Zb j 1)).1 bs)) rfl ?_
        refine lv_if_eq (tgt := 58) hx hb dT_spoil_47 (by decide) (fun c_47 => ?_) (fun c_47 => ?_)
        · skip
          rw [← nI_0] at c_47
          have c_47 : ((m_spb P (n - (j + 1)) (j + 1) 0 (updN Zb j 1)).1 bs) = 0 := n_eq c_47 (by omega) (by omega)
          refine lv_iload_n hx hb dT_spoil_58 rfl (lv_at hl 0 rfl) ?_
          exact rw_iret (w := [(o, .inr (2, [.int (nI rm), .int (nI n), .int (nI bs), .ref aP, .ref aH, .ref aC, .ref aT, .ref aB, .ref aZ, .ref aW, .ref aR, .ref oR, .ref oW])), (aP, .inl (cI, rm, .inl (pF P))), (aZ, .inl (cZ, rm, .inl (nF ((m_spb P (n - (j + 1)) (j + 1) 0 (updN Zb j 1)).1)))), (aW, .inl (cJ, rm * 8, .inr (.inl Wk)))]) hQ hx hb hr hlocks dT_spoil_59 (hP.sub [1, 2, 3, 0] rfl) (hD.sub [1, 2, 3, 0] (by decide) rfl) hS ⟨rfl, by rw [if_pos c_47]⟩
        · skip
          rw [← nI_0] at c_47
          have c_47 : ¬ ((m_spb P (n - (j + 1)) (j + 1) 0 (updN Zb j 1)).1 bs) = 0 := n_ne c_47
          refine lv_aload_n hx hb dT_spoil_50 rfl (lv_at hl 1 rfl) ?_
          refine lv_aload_n hx hb dT_spoil_51 rfl (lv_at hl 1 rfl) ?_
          refine ro_ki (va_runV (As := []) (rest := [.ref o]) ⟨hx, hb, hml, hown, hts⟩ (c_findBest l D cI cJ cZ o rm n bs aP aH aC aT aB aZ aW aR oR oW ((m_spb P (n - (j + 1)) (j + 1) 0 (updN Zb j 1)).1) Wk (by omega) (by omega) (by omega) (m_spb_2 (updN_2 hz9))) (cwV 0 hts gT_spoil_T_findBest_95 rfl rfl rfl (by decide +kernel) ⟨Nat.le_of_ble_eq_true rfl, Nat.le_of_ble_eq_true rfl⟩) (ro_preV (hP.sub [1, 3, 0] rfl) hK (va_recv hK hP (ci := 2) (q0 := 1) rfl rfl)) rfl rfl hl.1 rfl (lv_room (Nat.le_of_ble_eq_true rfl)) dT_spoil_52 ⟨Nat.le_of_ble_eq_true rfl, Nat.le_of_ble_eq_true rfl⟩) ?_
          refine va_put (D := D) (ci := 2) (v := .int (nI (m_best ((m_spb P (n - (j + 1)) (j + 1) 0 (updN Zb j 1)).1) Wk (n - 1) 1 0))) (ty := .int) (C := RT) (T := TT) (N := 13) hx hb hts iT_spoil_T tyT tyT_ok nmT hown hK hP hD hS 1 rfl rfl 2 (by decide) (hts (.fieldLink RT 73 "TreeDesk" "best" "I") (by decide +kernel)) (fun _ h9 => h9) rfl (by decide +kernel) rfl rfl (Nat.le_of_ble_eq_true rfl) dT_spoil_55 (fun H locs hP hD hS => ?_)
          have hP : va_P D vwCl [(aW, .inl (cJ, rm * 8, .inr (.inl Wk))), (o, .inr (2, [.int (nI rm), .int (nI n), .int (nI (m_best ((m_spb P (n - (j + 1)) (j + 1) 0 (updN Zb j 1)).1) Wk (n - 1) 1 0)), .ref aP, .ref aH, .ref aC, .ref aT, .ref aB, .ref aZ, .ref aW, .ref aR, .ref oR, .ref oW])), (aP, .inl (cI, rm, .inl (pF P))), (aZ, .inl (cZ, rm, .inl (nF ((m_spb P (n - (j + 1)) (j + 1) 0 (updN Zb j 1)).1))))] H := hP
          have hD : va_D A [(aW, .inl (cJ, rm * 8, .inr (.inl Wk))), (o, .inr (2, [.int (nI rm), .int (nI n), .int (nI (m_best ((m_spb P (n - (j + 1)) (j + 1) 0 (updN Zb j 1)).1) Wk (n - 1) 1 0)), .ref aP, .ref aH, .ref aC, .ref aT, .ref aB, .ref aZ, .ref aW, .ref aR, .ref oR, .ref oW])), (aP, .inl (cI, rm, .inl (pF P))), (aZ, .inl (cZ, rm, .inl (nF ((m_spb P (n - (j + 1)) (j + 1) 0 (updN Zb j 1)).1))))] := hD
          refine lv_iload_n hx hb dT_spoil_58 rfl (lv_at hl 0 rfl) ?_
          exact rw_iret (w := [(o, .inr (2, [.int (nI rm), .int (nI n), .int (nI (m_best ((m_spb P (n - (j + 1)) (j + 1) 0 (updN Zb j 1)).1) Wk (n - 1) 1 0)), .ref aP, .ref aH, .ref aC, .ref aT, .ref aB, .ref aZ, .ref aW, .ref aR, .ref oR, .ref oW])), (aP, .inl (cI, rm, .inl (pF P))), (aZ, .inl (cZ, rm, .inl (nF ((m_spb P (n - (j + 1)) (j + 1) 0 (updN Zb j 1)).1)))), (aW, .inl (cJ, rm * 8, .inr (.inl Wk)))]) hQ hx hb hr hlocks dT_spoil_59 (hP.sub [1, 2, 3, 0] rfl) (hD.sub [1, 2, 3, 0] (by decide) rfl) hS ⟨rfl, by rw [if_neg c_47]⟩
      · skip
        rw [← nI_0] at c_18
        have c_18 : ¬ (Zb j) = 0 := n_ne c_18
        omega

abbrev rm_c_append_new : Room := { frames := 6, cells := 0, slots := 0, locals := 130 }
set_option maxRecDepth 100000 in
set_option maxHeartbeats 4000000 in
theorem c_append_new (l : Launch) (D : va_G) (cI cJ cZ : ClassId) (o : Nat) (rm : Nat) (n : Nat) (bs : Nat) (aP : Nat) (aH : Nat) (aC : Nat) (aT : Nat) (aB : Nat) (aZ : Nat) (aW : Nat) (aR : Nat) (oR : Nat) (oW : Nat) (P : Nat → Nat) (Hh : Nat → Nat) (Ch : Nat → Nat) (Tm : Nat → Int64) (Bt : Nat → Int64) (Wk : Nat → Int64) (dv : Nat) (rs : Nat) (qt : Nat) (kn : Int64) (fd : Nat → Int64) (fr : Nat → Int64) (fq : Nat → Int64) (p9 : Nat) (t : Int64) (b : Int64) (Ld : Nat) (hn0 : 0 < n) (hn3 : n < rm) (hr3 : rm ≤ 300) (hp9 : p9 < n) (hbs : bs < n) (hHp : Hh p9 < 300) (hCp : Ch p9 < 300) (hb9 : ¬ b = kn) (hLd : m_dlen (m_set b fd) 8 0 = nI Ld) (hL2 : 2 ≤ Ld) (hL6 : Ld ≤ 256) : rw_C l yT_append wT_append rm_c_append_new D vwCl (gT cI cJ cZ) [.ref o, .int (nI p9), .long t, .long b] [(o, .inr (2, [.int (nI rm), .int (nI n), .int (nI bs), .ref aP, .ref aH, .ref aC, .ref aT, .ref aB, .ref aZ, .ref aW, .ref aR, .ref oR, .ref oW])), (aP, .inl (cI, rm, .inl (pF P))), (aH, .inl (cI, rm, .inl (nF Hh))), (aC, .inl (cI, rm, .inl (nF Ch))), (aT, .inl (cJ, rm, .inr (.inl Tm))), (aB, .inl (cJ, rm, .inr (.inl Bt))), (aW, .inl (cJ, rm * 8, .inr (.inl Wk))), (oW, .inr (1, [.ref dv, .ref rs, .ref qt, .long kn])), (dv, .inl (cJ, 8, .inr (.inl fd))), (rs, .inl (cJ, 8, .inr (.inl fr))), (qt, .inl (cJ, 8, .inr (.inl fq)))] (fun v9 w9 => v9 = some (.int (nI n)) ∧ w9 = [(o, .inr (2, [.int (nI rm), .int (nI (n + 1)), .int (nI (if m_cmp (m_sum ((m_dv (m_set b fd) fr fq (Ld - 2)).2) n p9 Wk) n bs 8 0 ≤ 0 then bs else n)), .ref aP, .ref aH, .ref aC, .ref aT, .ref aB, .ref aZ, .ref aW, .ref aR, .ref oR, .ref oW])), (aP, .inl (cI, rm, .inl (pF (updN P n p9)))), (aH, .inl (cI, rm, .inl (nF (updN Hh n (Hh p9 + 1))))), (aC, .inl (cI, rm, .inl (nF (updN Ch p9 (Ch p9 + 1))))), (aT, .inl (cJ, rm, .inr (.inl (vp_updL Tm n t)))), (aB, .inl (cJ, rm, .inr (.inl (vp_updL Bt n b)))), (aW, .inl (cJ, rm * 8, .inr (.inl (m_sum ((m_dv (m_set b fd) fr fq (Ld - 2)).2) n p9 Wk)))), (oW, .inr (1, [.ref dv, .ref rs, .ref qt, .long b])), (dv, .inl (cJ, 8, .inr (.inl (m_set b fd)))), (rs, .inl (cJ, 8, .inr (.inl ((m_dv (m_set b fd) fr fq (Ld - 2)).1)))), (qt, .inl (cJ, 8, .inr (.inl ((m_dv (m_set b fd) fr fq (Ld - 2)).2))))]) 0 0 := by
  refine rw_of (cc := cT_append) (maxL := 7) (ret := some .int) (by decide) rfl (Nat.le_of_ble_eq_true rfl) ?_
  intro p e s m args below meth c Q A ls hx hb hr hml hown hts hlocks hin hK hP hD hA hl hQ
  have hS : va_S A s.heap s.heap [] := va_S.rf
  have hl : lv_has ls 7 [(0, .ref o), (1, .int (nI p9)), (2, .long t), (4, .long b)] := hl
  have hown : s.vm.findClass RT = some m.cls := hown
  obtain ⟨H, hHe⟩ : ∃ H : Heap, H = s.heap := ⟨_, rfl⟩
  rw [← hHe] at hP
  have hS : va_S A s.heap H [] := by rw [hHe]; exact va_S.rf
  suffices h9 : W p l e rm_c_append_new s m args below meth c H [] 0 0 Q (F0 m 0 ls []) by rw [hHe] at h9; exact h9
  clear hHe
  refine lv_aload_n hx hb dT_append_0 rfl (lv_at hl 0 rfl) ?_
  refine va_get (D := D) (ci := 2) (v := .int (nI n)) (C := RT) (T := TT) (N := 13) hx hb hts iT_append_T hown hK hP 0 rfl rfl 1 (by decide) (hts (.fieldLink RT 70 "TreeDesk" "count" "I") (by decide +kernel)) (fun _ h9 => h9) rfl dT_append_1 ?_
  refine lv_istore (lv' := [(6, .int (nI n)), (0, .ref o), (1, .int (nI p9)), (2, .long t), (4, .long b)]) hx hb dT_append_4 hl (by decide) rfl (fun ls hl => ?_)
  refine lv_aload_n hx hb dT_append_6 rfl (lv_at hl 1 rfl) ?_
  refine va_get (D := D) (ci := 2) (v := .ref aP) (C := RT) (T := TT) (N := 13) hx hb hts iT_append_T hown hK hP 0 rfl rfl 3 (by decide) (hts (.fieldLink RT 13 "TreeDesk" "parents" "[I") (by decide +kernel)) (fun _ h9 => h9) rfl dT_append_7 ?_
  refine lv_iload hx hb dT_append_10 (lv_at hl 0 rfl) ?_
  refine lv_iload_n hx hb dT_append_12 rfl (lv_at hl 2 rfl) ?_
  refine ar_ist (j := n) hx hb hK hP hD hS 1 0 rfl rfl dT_append_13 (by omega) (by omega) (fun H locs hP hD hS => ?_)
  have hP : va_P D vwCl [(o, .inr (2, [.int (nI rm), .int (nI n), .int (nI bs), .ref aP, .ref aH, .ref aC, .ref aT, .ref aB, .ref aZ, .ref aW, .ref aR, .ref oR, .ref oW])), (aP, .inl (cI, rm, .inl (upd (pF P) n (nI p9)))), (aH, .inl (cI, rm, .inl (nF Hh))), (aC, .inl (cI, rm, .inl (nF Ch))), (aT, .inl (cJ, rm, .inr (.inl Tm))), (aB, .inl (cJ, rm, .inr (.inl Bt))), (aW, .inl (cJ, rm * 8, .inr (.inl Wk))), (oW, .inr (1, [.ref dv, .ref rs, .ref qt, .long kn])), (dv, .inl (cJ, 8, .inr (.inl fd))), (rs, .inl (cJ, 8, .inr (.inl fr))), (qt, .inl (cJ, 8, .inr (.inl fq)))] H := hP
  have hD : va_D A [(o, .inr (2, [.int (nI rm), .int (nI n), .int (nI bs), .ref aP, .ref aH, .ref aC, .ref aT, .ref aB, .ref aZ, .ref aW, .ref aR, .ref oR, .ref oW])), (aP, .inl (cI, rm, .inl (upd (pF P) n (nI p9)))), (aH, .inl (cI, rm, .inl (nF Hh))), (aC, .inl (cI, rm, .inl (nF Ch))), (aT, .inl (cJ, rm, .inr (.inl Tm))), (aB, .inl (cJ, rm, .inr (.inl Bt))), (aW, .inl (cJ, rm * 8, .inr (.inl Wk))), (oW, .inr (1, [.ref dv, .ref rs, .ref qt, .long kn])), (dv, .inl (cJ, 8, .inr (.inl fd))), (rs, .inl (cJ, 8, .inr (.inl fr))), (qt, .inl (cJ, 8, .inr (.inl fq)))] := hD
  have e_w13 : upd (pF P) n (nI p9) = pF (updN P n p9) := pF_u P p9 (by omega)
  rw [e_w13] at hP hD
  refine lv_aload_n hx hb dT_append_14 rfl (lv_at hl 1 rfl) ?_
  refine va_get (D := D) (ci := 2) (v := .ref aH) (C := RT) (T := TT) (N := 13) hx hb hts iT_append_T hown hK hP 0 rfl rfl 4 (by decide) (hts (.fieldLink RT 17 "TreeDesk" "heights" "[I") (by decide +kernel)) (fun _ h9 => h9) rfl dT_append_15 ?_
  refine lv_iload hx hb dT_append_18 (lv_at hl 0 rfl) ?_
  refine lv_aload_n hx hb dT_append_20 rfl (lv_at hl 1 rfl) ?_
  refine va_get (D := D) (ci := 2) (v := .ref aH) (C := RT) (T := TT) (N := 13) hx hb hts iT_append_T hown hK hP 0 rfl rfl 4 (by decide) (hts (.fieldLink RT 17 "TreeDesk" "heights" "[I") (by decide +kernel)) (fun _ h9 => h9) rfl dT_append_21 ?_
  refine lv_iload_n hx hb dT_append_24 rfl (lv_at hl 2 rfl) ?_
  refine ar_ild (j := p9) hx hb hK hP 2 0 rfl rfl dT_append_25 (by omega) (by omega) ?_
  refine tp_i (y := nI (Hh p9)) rfl ?_
  refine lv_iconst (v := nI 1) hx hb dT_append_26 (by decide) ?_
  refine lv_iadd hx hb dT_append_27 ?_
  refine tp_i (y := nI ((Hh p9) + 1)) (nI_add _ _) ?_
  refine ar_ist (j := n) hx hb hK hP hD hS 2 0 rfl rfl dT_append_28 (by omega) (by omega) (fun H locs hP hD hS => ?_)
  have hP : va_P D vwCl [(o, .inr (2, [.int (nI rm), .int (nI n), .int (nI bs), .ref aP, .ref aH, .ref aC, .ref aT, .ref aB, .ref aZ, .ref aW, .ref aR, .ref oR, .ref oW])), (aP, .inl (cI, rm, .inl (pF (updN P n p9)))), (aH, .inl (cI, rm, .inl (upd (nF Hh) n (nI ((Hh p9) + 1))))), (aC, .inl (cI, rm, .inl (nF Ch))), (aT, .inl (cJ, rm, .inr (.inl Tm))), (aB, .inl (cJ, rm, .inr (.inl Bt))), (aW, .inl (cJ, rm * 8, .inr (.inl Wk))), (oW, .inr (1, [.ref dv, .ref rs, .ref qt, .long kn])), (dv, .inl (cJ, 8, .inr (.inl fd))), (rs, .inl (cJ, 8, .inr (.inl fr))), (qt, .inl (cJ, 8, .inr (.inl fq)))] H := hP
  have hD : va_D A [(o, .inr (2, [.int (nI rm), .int (nI n), .int (nI bs), .ref aP, .ref aH, .ref aC, .ref aT, .ref aB, .ref aZ, .ref aW, .ref aR, .ref oR, .ref oW])), (aP, .inl (cI, rm, .inl (pF (updN P n p9)))), (aH, .inl (cI, rm, .inl (upd (nF Hh) n (nI ((Hh p9) + 1))))), (aC, .inl (cI, rm, .inl (nF Ch))), (aT, .inl (cJ, rm, .inr (.inl Tm))), (aB, .inl (cJ, rm, .inr (.inl Bt))), (aW, .inl (cJ, rm * 8, .inr (.inl Wk))), (oW, .inr (1, [.ref dv, .ref rs, .ref qt, .long kn])), (dv, .inl (cJ, 8, .inr (.inl fd))), (rs, .inl (cJ, 8, .inr (.inl fr))), (qt, .inl (cJ, 8, .inr (.inl fq)))] := hD
  have e_w28 : upd (nF Hh) n (nI ((Hh p9) + 1)) = nF (updN Hh n (Hh p9 + 1)) := nF_u Hh n (Hh p9 + 1)
  rw [e_w28] at hP hD
  refine lv_aload_n hx hb dT_append_29 rfl (lv_at hl 1 rfl) ?_
  refine va_get (D := D) (ci := 2) (v := .ref aT) (C := RT) (T := TT) (N := 13) hx hb hts iT_append_T hown hK hP 0 rfl rfl 6 (by decide) (hts (.fieldLink RT 23 "TreeDesk" "times" "[J") (by decide +kernel)) (fun _ h9 => h9) rfl dT_append_30 ?_
  refine lv_iload hx hb dT_append_33 (lv_at hl 0 rfl) ?_
  refine lv_lload_n hx hb dT_append_35 rfl (lv_at hl 3 rfl) ?_
  refine ar_lst (j := n) hx hb hK hP hD hS 4 1 rfl rfl dT_append_36 (by omega) (by omega) (fun H locs hP hD hS => ?_)
  have hP : va_P D vwCl [(o, .inr (2, [.int (nI rm), .int (nI n), .int (nI bs), .ref aP, .ref aH, .ref aC, .ref aT, .ref aB, .ref aZ, .ref aW, .ref aR, .ref oR, .ref oW])), (aP, .inl (cI, rm, .inl (pF (updN P n p9)))), (aH, .inl (cI, rm, .inl (nF (updN Hh n (Hh p9 + 1))))), (aC, .inl (cI, rm, .inl (nF Ch))), (aT, .inl (cJ, rm, .inr (.inl (vp_updL Tm n t)))), (aB, .inl (cJ, rm, .inr (.inl Bt))), (aW, .inl (cJ, rm * 8, .inr (.inl Wk))), (oW, .inr (1, [.ref dv, .ref rs, .ref qt, .long kn])), (dv, .inl (cJ, 8, .inr (.inl fd))), (rs, .inl (cJ, 8, .inr (.inl fr))), (qt, .inl (cJ, 8, .inr (.inl fq)))] H := hP
  have hD : va_D A [(o, .inr (2, [.int (nI rm), .int (nI n), .int (nI bs), .ref aP, .ref aH, .ref aC, .ref aT, .ref aB, .ref aZ, .ref aW, .ref aR, .ref oR, .ref oW])), (aP, .inl (cI, rm, .inl (pF (updN P n p9)))), (aH, .inl (cI, rm, .inl (nF (updN Hh n (Hh p9 + 1))))), (aC, .inl (cI, rm, .inl (nF Ch))), (aT, .inl (cJ, rm, .inr (.inl (vp_updL Tm n t)))), (aB, .inl (cJ, rm, .inr (.inl Bt))), (aW, .inl (cJ, rm * 8, .inr (.inl Wk))), (oW, .inr (1, [.ref dv, .ref rs, .ref qt, .long kn])), (dv, .inl (cJ, 8, .inr (.inl fd))), (rs, .inl (cJ, 8, .inr (.inl fr))), (qt, .inl (cJ, 8, .inr (.inl fq)))] := hD
  refine lv_aload_n hx hb dT_append_37 rfl (lv_at hl 1 rfl) ?_
  refine va_get (D := D) (ci := 2) (v := .ref aB) (C := RT) (T := TT) (N := 13) hx hb hts iT_append_T hown hK hP 0 rfl rfl 7 (by decide) (hts (.fieldLink RT 27 "TreeDesk" "bitsOf" "[J") (by decide +kernel)) (fun _ h9 => h9) rfl dT_append_38 ?_
  refine lv_iload hx hb dT_append_41 (lv_at hl 0 rfl) ?_
  refine lv_lload hx hb dT_append_43 (lv_at hl 4 rfl) ?_
  refine ar_lst (j := n) hx hb hK hP hD hS 5 1 rfl rfl dT_append_45 (by omega) (by omega) (fun H locs hP hD hS => ?_)
  have hP : va_P D vwCl [(o, .inr (2, [.int (nI rm), .int (nI n), .int (nI bs), .ref aP, .ref aH, .ref aC, .ref aT, .ref aB, .ref aZ, .ref aW, .ref aR, .ref oR, .ref oW])), (aP, .inl (cI, rm, .inl (pF (updN P n p9)))), (aH, .inl (cI, rm, .inl (nF (updN Hh n (Hh p9 + 1))))), (aC, .inl (cI, rm, .inl (nF Ch))), (aT, .inl (cJ, rm, .inr (.inl (vp_updL Tm n t)))), (aB, .inl (cJ, rm, .inr (.inl (vp_updL Bt n b)))), (aW, .inl (cJ, rm * 8, .inr (.inl Wk))), (oW, .inr (1, [.ref dv, .ref rs, .ref qt, .long kn])), (dv, .inl (cJ, 8, .inr (.inl fd))), (rs, .inl (cJ, 8, .inr (.inl fr))), (qt, .inl (cJ, 8, .inr (.inl fq)))] H := hP
  have hD : va_D A [(o, .inr (2, [.int (nI rm), .int (nI n), .int (nI bs), .ref aP, .ref aH, .ref aC, .ref aT, .ref aB, .ref aZ, .ref aW, .ref aR, .ref oR, .ref oW])), (aP, .inl (cI, rm, .inl (pF (updN P n p9)))), (aH, .inl (cI, rm, .inl (nF (updN Hh n (Hh p9 + 1))))), (aC, .inl (cI, rm, .inl (nF Ch))), (aT, .inl (cJ, rm, .inr (.inl (vp_updL Tm n t)))), (aB, .inl (cJ, rm, .inr (.inl (vp_updL Bt n b)))), (aW, .inl (cJ, rm * 8, .inr (.inl Wk))), (oW, .inr (1, [.ref dv, .ref rs, .ref qt, .long kn])), (dv, .inl (cJ, 8, .inr (.inl fd))), (rs, .inl (cJ, 8, .inr (.inl fr))), (qt, .inl (cJ, 8, .inr (.inl fq)))] := hD
  refine lv_aload_n hx hb dT_append_46 rfl (lv_at hl 1 rfl) ?_
  refine va_get (D := D) (ci := 2) (v := .ref aC) (C := RT) (T := TT) (N := 13) hx hb hts iT_append_T hown hK hP 0 rfl rfl 5 (by decide) (hts (.fieldLink RT 20 "TreeDesk" "children" "[I") (by decide +kernel)) (fun _ h9 => h9) rfl dT_append_47 ?_
  refine lv_iload_n hx hb dT_append_50 rfl (lv_at hl 2 rfl) ?_
  refine lv_dup2_11 hx hb dT_append_51 rfl rfl ?_
  refine ar_ild (j := p9) hx hb hK hP 3 0 rfl rfl dT_append_52 (by omega) (by omega) ?_
  refine tp_i (y := nI (Ch p9)) rfl ?_
  refine lv_iconst (v := nI 1) hx hb dT_append_53 (by decide) ?_
  refine lv_iadd hx hb dT_append_54 ?_
  refine tp_i (y := nI ((Ch p9) + 1)) (nI_add _ _) ?_
  refine ar_ist (j := p9) hx hb hK hP hD hS 3 0 rfl rfl dT_append_55 (by omega) (by omega) (fun H locs hP hD hS => ?_)
  have hP : va_P D vwCl [(o, .inr (2, [.int (nI rm), .int (nI n), .int (nI bs), .ref aP, .ref aH, .ref aC, .ref aT, .ref aB, .ref aZ, .ref aW, .ref aR, .ref oR, .ref oW])), (aP, .inl (cI, rm, .inl (pF (updN P n p9)))), (aH, .inl (cI, rm, .inl (nF (updN Hh n (Hh p9 + 1))))), (aC, .inl (cI, rm, .inl (upd (nF Ch) p9 (nI ((Ch p9) + 1))))), (aT, .inl (cJ, rm, .inr (.inl (vp_updL Tm n t)))), (aB, .inl (cJ, rm, .inr (.inl (vp_updL Bt n b)))), (aW, .inl (cJ, rm * 8, .inr (.inl Wk))), (oW, .inr (1, [.ref dv, .ref rs, .ref qt, .long kn])), (dv, .inl (cJ, 8, .inr (.inl fd))), (rs, .inl (cJ, 8, .inr (.inl fr))), (qt, .inl (cJ, 8, .inr (.inl fq)))] H := hP
  have hD : va_D A [(o, .inr (2, [.int (nI rm), .int (nI n), .int (nI bs), .ref aP, .ref aH, .ref aC, .ref aT, .ref aB, .ref aZ, .ref aW, .ref aR, .ref oR, .ref oW])), (aP, .inl (cI, rm, .inl (pF (updN P n p9)))), (aH, .inl (cI, rm, .inl (nF (updN Hh n (Hh p9 + 1))))), (aC, .inl (cI, rm, .inl (upd (nF Ch) p9 (nI ((Ch p9) + 1))))), (aT, .inl (cJ, rm, .inr (.inl (vp_updL Tm n t)))), (aB, .inl (cJ, rm, .inr (.inl (vp_updL Bt n b)))), (aW, .inl (cJ, rm * 8, .inr (.inl Wk))), (oW, .inr (1, [.ref dv, .ref rs, .ref qt, .long kn])), (dv, .inl (cJ, 8, .inr (.inl fd))), (rs, .inl (cJ, 8, .inr (.inl fr))), (qt, .inl (cJ, 8, .inr (.inl fq)))] := hD
  have e_w55 : upd (nF Ch) p9 (nI ((Ch p9) + 1)) = nF (updN Ch p9 (Ch p9 + 1)) := nF_u Ch p9 (Ch p9 + 1)
  rw [e_w55] at hP hD
  refine lv_aload_n hx hb dT_append_56 rfl (lv_at hl 1 rfl) ?_
  refine lv_iload hx hb dT_append_57 (lv_at hl 0 rfl) ?_
  refine lv_iload_n hx hb dT_append_59 rfl (lv_at hl 2 rfl) ?_
  refine lv_aload_n hx hb dT_append_60 rfl (lv_at hl 1 rfl) ?_
  refine va_get (D := D) (ci := 2) (v := .ref oW) (C := RT) (T := TT) (N := 13) hx hb hts iT_append_T hown hK hP 0 rfl rfl 12 (by decide) (hts (.fieldLink RT 52 "TreeDesk" "worth" "LTreeDesk$Worth;") (by decide +kernel)) (fun _ h9 => h9) rfl dT_append_61 ?_
  refine lv_lload hx hb dT_append_64 (lv_at hl 4 rfl) ?_
  refine rw_k (wc := [(oW, .inr (1, [.ref dv, .ref rs, .ref qt, .long kn])), (dv, .inl (cJ, 8, .inr (.inl fd))), (rs, .inl (cJ, 8, .inr (.inl fr))), (qt, .inl (cJ, 8, .inr (.inl fq)))]) (wr := [(o, .inr (2, [.int (nI rm), .int (nI n), .int (nI bs), .ref aP, .ref aH, .ref aC, .ref aT, .ref aB, .ref aZ, .ref aW, .ref aR, .ref oR, .ref oW])), (aP, .inl (cI, rm, .inl (pF (updN P n p9)))), (aH, .inl (cI, rm, .inl (nF (updN Hh n (Hh p9 + 1))))), (aC, .inl (cI, rm, .inl (nF (updN Ch p9 (Ch p9 + 1))))), (aT, .inl (cJ, rm, .inr (.inl (vp_updL Tm n t)))), (aB, .inl (cJ, rm, .inr (.inl (vp_updL Bt n b)))), (aW, .inl (cJ, rm * 8, .inr (.inl Wk)))]) (va_runV (As := [.long b]) (rest := [.int (nI p9), .int (nI n), .ref o]) ⟨hx, hb, hml, hown, hts⟩ (c_W_ofBits_new l D cI cJ cZ oW dv rs qt kn fd fr fq b Ld hb9 hLd hL2 hL6 H.size) (cwV 1 hts gT_append_W_ofBits_60 rfl rfl rfl (by decide +kernel) ⟨Nat.le_of_ble_eq_true rfl, Nat.le_of_ble_eq_true rfl⟩) (rw_preV (hP.sub [7, 8, 9, 10] rfl) hK (hD.sub [7, 8, 9, 10] (by decide) rfl) (va_recv hK hP (ci := 1) (q0 := 7) rfl rfl)) rfl rfl hl.1 rfl (lv_room (Nat.le_of_ble_eq_true rfl)) dT_append_66 ⟨Nat.le_of_ble_eq_true rfl, Nat.le_of_ble_eq_true rfl⟩) hP hD hS hA [7, 8, 9, 10] [0, 1, 2, 3, 4, 5, 6] rfl rfl (by decide) (by decide) (fun v9 w9 H locs hp9 hP hD hS => ?_)
  obtain ⟨rfl, rfl⟩ := hp9
  have hP : va_P D vwCl [(o, .inr (2, [.int (nI rm), .int (nI n), .int (nI bs), .ref aP, .ref aH, .ref aC, .ref aT, .ref aB, .ref aZ, .ref aW, .ref aR, .ref oR, .ref oW])), (aP, .inl (cI, rm, .inl (pF (updN P n p9)))), (aH, .inl (cI, rm, .inl (nF (updN Hh n (Hh p9 + 1))))), (aC, .inl (cI, rm, .inl (nF (updN Ch p9 (Ch p9 + 1))))), (aT, .inl (cJ, rm, .inr (.inl (vp_updL Tm n t)))), (aB, .inl (cJ, rm, .inr (.inl (vp_updL Bt n b)))), (aW, .inl (cJ, rm * 8, .inr (.inl Wk))), (oW, .inr (1, [.ref dv, .ref rs, .ref qt, .long b])), (dv, .inl (cJ, 8, .inr (.inl (m_set b fd)))), (rs, .inl (cJ, 8, .inr (.inl ((m_dv (m_set b fd) fr fq (Ld - 2)).1)))), (qt, .inl (cJ, 8, .inr (.inl ((m_dv (m_set b fd) fr fq (Ld - 2)).2))))] H := hP
  have hD : va_D A [(o, .inr (2, [.int (nI rm), .int (nI n), .int (nI bs), .ref aP, .ref aH, .ref aC, .ref aT, .ref aB, .ref aZ, .ref aW, .ref aR, .ref oR, .ref oW])), (aP, .inl (cI, rm, .inl (pF (updN P n p9)))), (aH, .inl (cI, rm, .inl (nF (updN Hh n (Hh p9 + 1))))), (aC, .inl (cI, rm, .inl (nF (updN Ch p9 (Ch p9 + 1))))), (aT, .inl (cJ, rm, .inr (.inl (vp_updL Tm n t)))), (aB, .inl (cJ, rm, .inr (.inl (vp_updL Bt n b)))), (aW, .inl (cJ, rm * 8, .inr (.inl Wk))), (oW, .inr (1, [.ref dv, .ref rs, .ref qt, .long b])), (dv, .inl (cJ, 8, .inr (.inl (m_set b fd)))), (rs, .inl (cJ, 8, .inr (.inl ((m_dv (m_set b fd) fr fq (Ld - 2)).1)))), (qt, .inl (cJ, 8, .inr (.inl ((m_dv (m_set b fd) fr fq (Ld - 2)).2))))] := hD
  refine W.eq (g2 := F0 m 69 ls [.ref qt, .int (nI p9), .int (nI n), .ref o]) rfl ?_
  refine rw_k (wc := [(o, .inr (2, [.int (nI rm), .int (nI n), .int (nI bs), .ref aP, .ref aH, .ref aC, .ref aT, .ref aB, .ref aZ, .ref aW, .ref aR, .ref oR, .ref oW])), (aW, .inl (cJ, rm * 8, .inr (.inl Wk))), (qt, .inl (cJ, 8, .inr (.inl ((m_dv (m_set b fd) fr fq (Ld - 2)).2))))]) (wr := [(aP, .inl (cI, rm, .inl (pF (updN P n p9)))), (aH, .inl (cI, rm, .inl (nF (updN Hh n (Hh p9 + 1))))), (aC, .inl (cI, rm, .inl (nF (updN Ch p9 (Ch p9 + 1))))), (aT, .inl (cJ, rm, .inr (.inl (vp_updL Tm n t)))), (aB, .inl (cJ, rm, .inr (.inl (vp_updL Bt n b)))), (oW, .inr (1, [.ref dv, .ref rs, .ref qt, .long b])), (dv, .inl (cJ, 8, .inr (.inl (m_set b fd)))), (rs, .inl (cJ, 8, .inr (.inl ((m_dv (m_set b fd) fr fq (Ld - 2)).1))))]) (va_runV (As := [.int (nI n), .int (nI p9), .ref qt]) (rest := []) ⟨hx, hb, hml, hown, hts⟩ (c_sumWork l D cI cJ cZ o rm n bs aP aH aC aT aB aZ aW aR oR oW Wk qt ((m_dv (m_set b fd) fr fq (Ld - 2)).2) n p9 (by omega) (by omega) (by omega) H.size) (cwV 3 hts gT_append_T_sumWork_136 rfl rfl rfl (by decide +kernel) ⟨Nat.le_of_ble_eq_true rfl, Nat.le_of_ble_eq_true rfl⟩) (rw_preV (hP.sub [0, 6, 10] rfl) hK (hD.sub [0, 6, 10] (by decide) rfl) (va_recv hK hP (ci := 2) (q0 := 0) rfl rfl)) rfl rfl hl.1 rfl (lv_room (Nat.le_of_ble_eq_true rfl)) dT_append_69 ⟨Nat.le_of_ble_eq_true rfl, Nat.le_of_ble_eq_true rfl⟩) hP hD hS hA [0, 6, 10] [1, 2, 3, 4, 5, 7, 8, 9] rfl rfl (by decide) (by decide) (fun v9 w9 H locs hp9 hP hD hS => ?_)
  obtain ⟨rfl, rfl⟩ := hp9
  have hP : va_P D vwCl [(aP, .inl (cI, rm, .inl (pF (updN P n p9)))), (aH, .inl (cI, rm, .inl (nF (updN Hh n (Hh p9 + 1))))), (aC, .inl (cI, rm, .inl (nF (updN Ch p9 (Ch p9 + 1))))), (aT, .inl (cJ, rm, .inr (.inl (vp_updL Tm n t)))), (aB, .inl (cJ, rm, .inr (.inl (vp_updL Bt n b)))), (oW, .inr (1, [.ref dv, .ref rs, .ref qt, .long b])), (dv, .inl (cJ, 8, .inr (.inl (m_set b fd)))), (rs, .inl (cJ, 8, .inr (.inl ((m_dv (m_set b fd) fr fq (Ld - 2)).1)))), (o, .inr (2, [.int (nI rm), .int (nI n), .int (nI bs), .ref aP, .ref aH, .ref aC, .ref aT, .ref aB, .ref aZ, .ref aW, .ref aR, .ref oR, .ref oW])), (aW, .inl (cJ, rm * 8, .inr (.inl (m_sum ((m_dv (m_set b fd) fr fq (Ld - 2)).2) n p9 Wk)))), (qt, .inl (cJ, 8, .inr (.inl ((m_dv (m_set b fd) fr fq (Ld - 2)).2))))] H := hP
  have hD : va_D A [(aP, .inl (cI, rm, .inl (pF (updN P n p9)))), (aH, .inl (cI, rm, .inl (nF (updN Hh n (Hh p9 + 1))))), (aC, .inl (cI, rm, .inl (nF (updN Ch p9 (Ch p9 + 1))))), (aT, .inl (cJ, rm, .inr (.inl (vp_updL Tm n t)))), (aB, .inl (cJ, rm, .inr (.inl (vp_updL Bt n b)))), (oW, .inr (1, [.ref dv, .ref rs, .ref qt, .long b])), (dv, .inl (cJ, 8, .inr (.inl (m_set b fd)))), (rs, .inl (cJ, 8, .inr (.inl ((m_dv (m_set b fd) fr fq (Ld - 2)).1)))), (o, .inr (2, [.int (nI rm), .int (nI n), .int (nI bs), .ref aP, .ref aH, .ref aC, .ref aT, .ref aB, .ref aZ, .ref aW, .ref aR, .ref oR, .ref oW])), (aW, .inl (cJ, rm * 8, .inr (.inl (m_sum ((m_dv (m_set b fd) fr fq (Ld - 2)).2) n p9 Wk)))), (qt, .inl (cJ, 8, .inr (.inl ((m_dv (m_set b fd) fr fq (Ld - 2)).2))))] := hD
  refine W.eq (g2 := F0 m 72 ls []) rfl ?_
  refine lv_aload_n hx hb dT_append_72 rfl (lv_at hl 1 rfl) ?_
  refine lv_dup hx hb dT_append_73 rfl ?_
  refine va_get (D := D) (ci := 2) (v := .int (nI n)) (C := RT) (T := TT) (N := 13) hx hb hts iT_append_T hown hK hP 8 rfl rfl 1 (by decide) (hts (.fieldLink RT 70 "TreeDesk" "count" "I") (by decide +kernel)) (fun _ h9 => h9) rfl dT_append_74 ?_
  refine lv_iconst (v := nI 1) hx hb dT_append_77 (by decide) ?_
  refine lv_iadd hx hb dT_append_78 ?_
  refine tp_i (y := nI (n + 1)) (nI_add _ _) ?_
  refine va_put (D := D) (ci := 2) (v := .int (nI (n + 1))) (ty := .int) (C := RT) (T := TT) (N := 13) hx hb hts iT_append_T tyT tyT_ok nmT hown hK hP hD hS 8 rfl rfl 1 (by decide) (hts (.fieldLink RT 70 "TreeDesk" "count" "I") (by decide +kernel)) (fun _ h9 => h9) rfl (by decide +kernel) rfl rfl (Nat.le_of_ble_eq_true rfl) dT_append_79 (fun H locs hP hD hS => ?_)
  have hP : va_P D vwCl [(aP, .inl (cI, rm, .inl (pF (updN P n p9)))), (aH, .inl (cI, rm, .inl (nF (updN Hh n (Hh p9 + 1))))), (aC, .inl (cI, rm, .inl (nF (updN Ch p9 (Ch p9 + 1))))), (aT, .inl (cJ, rm, .inr (.inl (vp_updL Tm n t)))), (aB, .inl (cJ, rm, .inr (.inl (vp_updL Bt n b)))), (oW, .inr (1, [.ref dv, .ref rs, .ref qt, .long b])), (dv, .inl (cJ, 8, .inr (.inl (m_set b fd)))), (rs, .inl (cJ, 8, .inr (.inl ((m_dv (m_set b fd) fr fq (Ld - 2)).1)))), (o, .inr (2, [.int (nI rm), .int (nI (n + 1)), .int (nI bs), .ref aP, .ref aH, .ref aC, .ref aT, .ref aB, .ref aZ, .ref aW, .ref aR, .ref oR, .ref oW])), (aW, .inl (cJ, rm * 8, .inr (.inl (m_sum ((m_dv (m_set b fd) fr fq (Ld - 2)).2) n p9 Wk)))), (qt, .inl (cJ, 8, .inr (.inl ((m_dv (m_set b fd) fr fq (Ld - 2)).2))))] H := hP
  have hD : va_D A [(aP, .inl (cI, rm, .inl (pF (updN P n p9)))), (aH, .inl (cI, rm, .inl (nF (updN Hh n (Hh p9 + 1))))), (aC, .inl (cI, rm, .inl (nF (updN Ch p9 (Ch p9 + 1))))), (aT, .inl (cJ, rm, .inr (.inl (vp_updL Tm n t)))), (aB, .inl (cJ, rm, .inr (.inl (vp_updL Bt n b)))), (oW, .inr (1, [.ref dv, .ref rs, .ref qt, .long b])), (dv, .inl (cJ, 8, .inr (.inl (m_set b fd)))), (rs, .inl (cJ, 8, .inr (.inl ((m_dv (m_set b fd) fr fq (Ld - 2)).1)))), (o, .inr (2, [.int (nI rm), .int (nI (n + 1)), .int (nI bs), .ref aP, .ref aH, .ref aC, .ref aT, .ref aB, .ref aZ, .ref aW, .ref aR, .ref oR, .ref oW])), (aW, .inl (cJ, rm * 8, .inr (.inl (m_sum ((m_dv (m_set b fd) fr fq (Ld - 2)).2) n p9 Wk)))), (qt, .inl (cJ, 8, .inr (.inl ((m_dv (m_set b fd) fr fq (Ld - 2)).2))))] := hD
  refine lv_aload_n hx hb dT_append_82 rfl (lv_at hl 1 rfl) ?_
  refine lv_iload hx hb dT_append_83 (lv_at hl 0 rfl) ?_
  refine lv_aload_n hx hb dT_append_85 rfl (lv_at hl 1 rfl) ?_
  refine va_get (D := D) (ci := 2) (v := .int (nI bs)) (C := RT) (T := TT) (N := 13) hx hb hts iT_append_T hown hK hP 8 rfl rfl 2 (by decide) (hts (.fieldLink RT 73 "TreeDesk" "best" "I") (by decide +kernel)) (fun _ h9 => h9) rfl dT_append_86 ?_
  refine ro_ki (va_runV (As := [.int (nI n), .int (nI bs)]) (rest := []) ⟨hx, hb, hml, hown, hts⟩ (c_compareWorks l D cI cJ cZ o rm (n + 1) bs aP aH aC aT aB aZ aW aR oR oW (m_sum ((m_dv (m_set b fd) fr fq (Ld - 2)).2) n p9 Wk) n bs (by omega) (by omega) (by omega)) (cwV 2 hts gT_append_T_compareWorks_116 rfl rfl rfl (by decide +kernel) ⟨Nat.le_of_ble_eq_true rfl, Nat.le_of_ble_eq_true rfl⟩) (ro_preV (hP.sub [8, 9] rfl) hK (va_recv hK hP (ci := 2) (q0 := 8) rfl rfl)) rfl rfl hl.1 rfl (lv_room (Nat.le_of_ble_eq_true rfl)) dT_append_89 ⟨Nat.le_of_ble_eq_true rfl, Nat.le_of_ble_eq_true rfl⟩) ?_
  refine lv_if_le (tgt := 101) hx hb dT_append_92 (by decide) (fun c_92 => ?_) (fun c_92 => ?_)
  · skip
    refine lv_iload hx hb dT_append_101 (lv_at hl 0 rfl) ?_
    exact rw_iret (w := [(o, .inr (2, [.int (nI rm), .int (nI (n + 1)), .int (nI bs), .ref aP, .ref aH, .ref aC, .ref aT, .ref aB, .ref aZ, .ref aW, .ref aR, .ref oR, .ref oW])), (aP, .inl (cI, rm, .inl (pF (updN P n p9)))), (aH, .inl (cI, rm, .inl (nF (updN Hh n (Hh p9 + 1))))), (aC, .inl (cI, rm, .inl (nF (updN Ch p9 (Ch p9 + 1))))), (aT, .inl (cJ, rm, .inr (.inl (vp_updL Tm n t)))), (aB, .inl (cJ, rm, .inr (.inl (vp_updL Bt n b)))), (aW, .inl (cJ, rm * 8, .inr (.inl (m_sum ((m_dv (m_set b fd) fr fq (Ld - 2)).2) n p9 Wk)))), (oW, .inr (1, [.ref dv, .ref rs, .ref qt, .long b])), (dv, .inl (cJ, 8, .inr (.inl (m_set b fd)))), (rs, .inl (cJ, 8, .inr (.inl ((m_dv (m_set b fd) fr fq (Ld - 2)).1)))), (qt, .inl (cJ, 8, .inr (.inl ((m_dv (m_set b fd) fr fq (Ld - 2)).2))))]) hQ hx hb hr hlocks dT_append_103 (hP.sub [8, 0, 1, 2, 3, 4, 9, 5, 6, 7, 10] rfl) (hD.sub [8, 0, 1, 2, 3, 4, 9, 5, 6, 7, 10] (by decide) rfl) hS ⟨rfl, by rw [if_pos c_92]⟩
  · skip
    refine lv_aload_n hx hb dT_append_95 rfl (lv_at hl 1 rfl) ?_
    refine lv_iload hx hb dT_append_96 (lv_at hl 0 rfl) ?_
    refine va_put (D := D) (ci := 2) (v := .int (nI n)) (ty := .int) (C := RT) (T := TT) (N := 13) hx hb hts iT_append_T tyT tyT_ok nmT hown hK hP hD hS 8 rfl rfl 2 (by decide) (hts (.fieldLink RT 73 "TreeDesk" "best" "I") (by decide +kernel)) (fun _ h9 => h9) rfl (by decide +kernel) rfl rfl (Nat.le_of_ble_eq_true rfl) dT_append_98 (fun H locs hP hD hS => ?_)
    have hP : va_P D vwCl [(aP, .inl (cI, rm, .inl (pF (updN P n p9)))), (aH, .inl (cI, rm, .inl (nF (updN Hh n (Hh p9 + 1))))), (aC, .inl (cI, rm, .inl (nF (updN Ch p9 (Ch p9 + 1))))), (aT, .inl (cJ, rm, .inr (.inl (vp_updL Tm n t)))), (aB, .inl (cJ, rm, .inr (.inl (vp_updL Bt n b)))), (oW, .inr (1, [.ref dv, .ref rs, .ref qt, .long b])), (dv, .inl (cJ, 8, .inr (.inl (m_set b fd)))), (rs, .inl (cJ, 8, .inr (.inl ((m_dv (m_set b fd) fr fq (Ld - 2)).1)))), (o, .inr (2, [.int (nI rm), .int (nI (n + 1)), .int (nI n), .ref aP, .ref aH, .ref aC, .ref aT, .ref aB, .ref aZ, .ref aW, .ref aR, .ref oR, .ref oW])), (aW, .inl (cJ, rm * 8, .inr (.inl (m_sum ((m_dv (m_set b fd) fr fq (Ld - 2)).2) n p9 Wk)))), (qt, .inl (cJ, 8, .inr (.inl ((m_dv (m_set b fd) fr fq (Ld - 2)).2))))] H := hP
    have hD : va_D A [(aP, .inl (cI, rm, .inl (pF (updN P n p9)))), (aH, .inl (cI, rm, .inl (nF (updN Hh n (Hh p9 + 1))))), (aC, .inl (cI, rm, .inl (nF (updN Ch p9 (Ch p9 + 1))))), (aT, .inl (cJ, rm, .inr (.inl (vp_updL Tm n t)))), (aB, .inl (cJ, rm, .inr (.inl (vp_updL Bt n b)))), (oW, .inr (1, [.ref dv, .ref rs, .ref qt, .long b])), (dv, .inl (cJ, 8, .inr (.inl (m_set b fd)))), (rs, .inl (cJ, 8, .inr (.inl ((m_dv (m_set b fd) fr fq (Ld - 2)).1)))), (o, .inr (2, [.int (nI rm), .int (nI (n + 1)), .int (nI n), .ref aP, .ref aH, .ref aC, .ref aT, .ref aB, .ref aZ, .ref aW, .ref aR, .ref oR, .ref oW])), (aW, .inl (cJ, rm * 8, .inr (.inl (m_sum ((m_dv (m_set b fd) fr fq (Ld - 2)).2) n p9 Wk)))), (qt, .inl (cJ, 8, .inr (.inl ((m_dv (m_set b fd) fr fq (Ld - 2)).2))))] := hD
    refine lv_iload hx hb dT_append_101 (lv_at hl 0 rfl) ?_
    exact rw_iret (w := [(o, .inr (2, [.int (nI rm), .int (nI (n + 1)), .int (nI n), .ref aP, .ref aH, .ref aC, .ref aT, .ref aB, .ref aZ, .ref aW, .ref aR, .ref oR, .ref oW])), (aP, .inl (cI, rm, .inl (pF (updN P n p9)))), (aH, .inl (cI, rm, .inl (nF (updN Hh n (Hh p9 + 1))))), (aC, .inl (cI, rm, .inl (nF (updN Ch p9 (Ch p9 + 1))))), (aT, .inl (cJ, rm, .inr (.inl (vp_updL Tm n t)))), (aB, .inl (cJ, rm, .inr (.inl (vp_updL Bt n b)))), (aW, .inl (cJ, rm * 8, .inr (.inl (m_sum ((m_dv (m_set b fd) fr fq (Ld - 2)).2) n p9 Wk)))), (oW, .inr (1, [.ref dv, .ref rs, .ref qt, .long b])), (dv, .inl (cJ, 8, .inr (.inl (m_set b fd)))), (rs, .inl (cJ, 8, .inr (.inl ((m_dv (m_set b fd) fr fq (Ld - 2)).1)))), (qt, .inl (cJ, 8, .inr (.inl ((m_dv (m_set b fd) fr fq (Ld - 2)).2))))]) hQ hx hb hr hlocks dT_append_103 (hP.sub [8, 0, 1, 2, 3, 4, 9, 5, 6, 7, 10] rfl) (hD.sub [8, 0, 1, 2, 3, 4, 9, 5, 6, 7, 10] (by decide) rfl) hS ⟨rfl, by rw [if_neg c_92]⟩

abbrev rm_c_append_old : Room := { frames := 6, cells := 0, slots := 0, locals := 130 }
set_option maxRecDepth 100000 in
set_option maxHeartbeats 4000000 in
theorem c_append_old (l : Launch) (D : va_G) (cI cJ cZ : ClassId) (o : Nat) (rm : Nat) (n : Nat) (bs : Nat) (aP : Nat) (aH : Nat) (aC : Nat) (aT : Nat) (aB : Nat) (aZ : Nat) (aW : Nat) (aR : Nat) (oR : Nat) (oW : Nat) (P : Nat → Nat) (Hh : Nat → Nat) (Ch : Nat → Nat) (Tm : Nat → Int64) (Bt : Nat → Int64) (Wk : Nat → Int64) (dv : Nat) (rs : Nat) (qt : Nat) (kn : Int64) (fd : Nat → Int64) (fr : Nat → Int64) (fq : Nat → Int64) (p9 : Nat) (t : Int64) (hn0 : 0 < n) (hn3 : n < rm) (hr3 : rm ≤ 300) (hp9 : p9 < n) (hbs : bs < n) (hHp : Hh p9 < 300) (hCp : Ch p9 < 300) : rw_C l yT_append wT_append rm_c_append_old D vwCl (gT cI cJ cZ) [.ref o, .int (nI p9), .long t, .long kn] [(o, .inr (2, [.int (nI rm), .int (nI n), .int (nI bs), .ref aP, .ref aH, .ref aC, .ref aT, .ref aB, .ref aZ, .ref aW, .ref aR, .ref oR, .ref oW])), (aP, .inl (cI, rm, .inl (pF P))), (aH, .inl (cI, rm, .inl (nF Hh))), (aC, .inl (cI, rm, .inl (nF Ch))), (aT, .inl (cJ, rm, .inr (.inl Tm))), (aB, .inl (cJ, rm, .inr (.inl Bt))), (aW, .inl (cJ, rm * 8, .inr (.inl Wk))), (oW, .inr (1, [.ref dv, .ref rs, .ref qt, .long kn])), (dv, .inl (cJ, 8, .inr (.inl fd))), (rs, .inl (cJ, 8, .inr (.inl fr))), (qt, .inl (cJ, 8, .inr (.inl fq)))] (fun v9 w9 => v9 = some (.int (nI n)) ∧ w9 = [(o, .inr (2, [.int (nI rm), .int (nI (n + 1)), .int (nI (if m_cmp (m_sum fq n p9 Wk) n bs 8 0 ≤ 0 then bs else n)), .ref aP, .ref aH, .ref aC, .ref aT, .ref aB, .ref aZ, .ref aW, .ref aR, .ref oR, .ref oW])), (aP, .inl (cI, rm, .inl (pF (updN P n p9)))), (aH, .inl (cI, rm, .inl (nF (updN Hh n (Hh p9 + 1))))), (aC, .inl (cI, rm, .inl (nF (updN Ch p9 (Ch p9 + 1))))), (aT, .inl (cJ, rm, .inr (.inl (vp_updL Tm n t)))), (aB, .inl (cJ, rm, .inr (.inl (vp_updL Bt n kn)))), (aW, .inl (cJ, rm * 8, .inr (.inl (m_sum fq n p9 Wk)))), (oW, .inr (1, [.ref dv, .ref rs, .ref qt, .long kn])), (dv, .inl (cJ, 8, .inr (.inl fd))), (rs, .inl (cJ, 8, .inr (.inl fr))), (qt, .inl (cJ, 8, .inr (.inl fq)))]) 0 0 := by
  refine rw_of (cc := cT_append) (maxL := 7) (ret := some .int) (by decide) rfl (Nat.le_of_ble_eq_true rfl) ?_
  intro p e s m args below meth c Q A ls hx hb hr hml hown hts hlocks hin hK hP hD hA hl hQ
  have hS : va_S A s.heap s.heap [] := va_S.rf
  have hl : lv_has ls 7 [(0, .ref o), (1, .int (nI p9)), (2, .long t), (4, .long kn)] := hl
  have hown : s.vm.findClass RT = some m.cls := hown
  obtain ⟨H, hHe⟩ : ∃ H : Heap, H = s.heap := ⟨_, rfl⟩
  rw [← hHe] at hP
  have hS : va_S A s.heap H [] := by rw [hHe]; exact va_S.rf
  suffices h9 : W p l e rm_c_append_old s m args below meth c H [] 0 0 Q (F0 m 0 ls []) by rw [hHe] at h9; exact h9
  clear hHe
  refine lv_aload_n hx hb dT_append_0 rfl (lv_at hl 0 rfl) ?_
  refine va_get (D := D) (ci := 2) (v := .int (nI n)) (C := RT) (T := TT) (N := 13) hx hb hts iT_append_T hown hK hP 0 rfl rfl 1 (by decide) (hts (.fieldLink RT 70 "TreeDesk" "count" "I") (by decide +kernel)) (fun _ h9 => h9) rfl dT_append_1 ?_
  refine lv_istore (lv' := [(6, .int (nI n)), (0, .ref o), (1, .int (nI p9)), (2, .long t), (4, .long kn)]) hx hb dT_append_4 hl (by decide) rfl (fun ls hl => ?_)
  refine lv_aload_n hx hb dT_append_6 rfl (lv_at hl 1 rfl) ?_
  refine va_get (D := D) (ci := 2) (v := .ref aP) (C := RT) (T := TT) (N := 13) hx hb hts iT_append_T hown hK hP 0 rfl rfl 3 (by decide) (hts (.fieldLink RT 13 "TreeDesk" "parents" "[I") (by decide +kernel)) (fun _ h9 => h9) rfl dT_append_7 ?_
  refine lv_iload hx hb dT_append_10 (lv_at hl 0 rfl) ?_
  refine lv_iload_n hx hb dT_append_12 rfl (lv_at hl 2 rfl) ?_
  refine ar_ist (j := n) hx hb hK hP hD hS 1 0 rfl rfl dT_append_13 (by omega) (by omega) (fun H locs hP hD hS => ?_)
  have hP : va_P D vwCl [(o, .inr (2, [.int (nI rm), .int (nI n), .int (nI bs), .ref aP, .ref aH, .ref aC, .ref aT, .ref aB, .ref aZ, .ref aW, .ref aR, .ref oR, .ref oW])), (aP, .inl (cI, rm, .inl (upd (pF P) n (nI p9)))), (aH, .inl (cI, rm, .inl (nF Hh))), (aC, .inl (cI, rm, .inl (nF Ch))), (aT, .inl (cJ, rm, .inr (.inl Tm))), (aB, .inl (cJ, rm, .inr (.inl Bt))), (aW, .inl (cJ, rm * 8, .inr (.inl Wk))), (oW, .inr (1, [.ref dv, .ref rs, .ref qt, .long kn])), (dv, .inl (cJ, 8, .inr (.inl fd))), (rs, .inl (cJ, 8, .inr (.inl fr))), (qt, .inl (cJ, 8, .inr (.inl fq)))] H := hP
  have hD : va_D A [(o, .inr (2, [.int (nI rm), .int (nI n), .int (nI bs), .ref aP, .ref aH, .ref aC, .ref aT, .ref aB, .ref aZ, .ref aW, .ref aR, .ref oR, .ref oW])), (aP, .inl (cI, rm, .inl (upd (pF P) n (nI p9)))), (aH, .inl (cI, rm, .inl (nF Hh))), (aC, .inl (cI, rm, .inl (nF Ch))), (aT, .inl (cJ, rm, .inr (.inl Tm))), (aB, .inl (cJ, rm, .inr (.inl Bt))), (aW, .inl (cJ, rm * 8, .inr (.inl Wk))), (oW, .inr (1, [.ref dv, .ref rs, .ref qt, .long kn])), (dv, .inl (cJ, 8, .inr (.inl fd))), (rs, .inl (cJ, 8, .inr (.inl fr))), (qt, .inl (cJ, 8, .inr (.inl fq)))] := hD
  have e_w13 : upd (pF P) n (nI p9) = pF (updN P n p9) := pF_u P p9 (by omega)
  rw [e_w13] at hP hD
  refine lv_aload_n hx hb dT_append_14 rfl (lv_at hl 1 rfl) ?_
  refine va_get (D := D) (ci := 2) (v := .ref aH) (C := RT) (T := TT) (N := 13) hx hb hts iT_append_T hown hK hP 0 rfl rfl 4 (by decide) (hts (.fieldLink RT 17 "TreeDesk" "heights" "[I") (by decide +kernel)) (fun _ h9 => h9) rfl dT_append_15 ?_
  refine lv_iload hx hb dT_append_18 (lv_at hl 0 rfl) ?_
  refine lv_aload_n hx hb dT_append_20 rfl (lv_at hl 1 rfl) ?_
  refine va_get (D := D) (ci := 2) (v := .ref aH) (C := RT) (T := TT) (N := 13) hx hb hts iT_append_T hown hK hP 0 rfl rfl 4 (by decide) (hts (.fieldLink RT 17 "TreeDesk" "heights" "[I") (by decide +kernel)) (fun _ h9 => h9) rfl dT_append_21 ?_
  refine lv_iload_n hx hb dT_append_24 rfl (lv_at hl 2 rfl) ?_
  refine ar_ild (j := p9) hx hb hK hP 2 0 rfl rfl dT_append_25 (by omega) (by omega) ?_
  refine tp_i (y := nI (Hh p9)) rfl ?_
  refine lv_iconst (v := nI 1) hx hb dT_append_26 (by decide) ?_
  refine lv_iadd hx hb dT_append_27 ?_
  refine tp_i (y := nI ((Hh p9) + 1)) (nI_add _ _) ?_
  refine ar_ist (j := n) hx hb hK hP hD hS 2 0 rfl rfl dT_append_28 (by omega) (by omega) (fun H locs hP hD hS => ?_)
  have hP : va_P D vwCl [(o, .inr (2, [.int (nI rm), .int (nI n), .int (nI bs), .ref aP, .ref aH, .ref aC, .ref aT, .ref aB, .ref aZ, .ref aW, .ref aR, .ref oR, .ref oW])), (aP, .inl (cI, rm, .inl (pF (updN P n p9)))), (aH, .inl (cI, rm, .inl (upd (nF Hh) n (nI ((Hh p9) + 1))))), (aC, .inl (cI, rm, .inl (nF Ch))), (aT, .inl (cJ, rm, .inr (.inl Tm))), (aB, .inl (cJ, rm, .inr (.inl Bt))), (aW, .inl (cJ, rm * 8, .inr (.inl Wk))), (oW, .inr (1, [.ref dv, .ref rs, .ref qt, .long kn])), (dv, .inl (cJ, 8, .inr (.inl fd))), (rs, .inl (cJ, 8, .inr (.inl fr))), (qt, .inl (cJ, 8, .inr (.inl fq)))] H := hP
  have hD : va_D A [(o, .inr (2, [.int (nI rm), .int (nI n), .int (nI bs), .ref aP, .ref aH, .ref aC, .ref aT, .ref aB, .ref aZ, .ref aW, .ref aR, .ref oR, .ref oW])), (aP, .inl (cI, rm, .inl (pF (updN P n p9)))), (aH, .inl (cI, rm, .inl (upd (nF Hh) n (nI ((Hh p9) + 1))))), (aC, .inl (cI, rm, .inl (nF Ch))), (aT, .inl (cJ, rm, .inr (.inl Tm))), (aB, .inl (cJ, rm, .inr (.inl Bt))), (aW, .inl (cJ, rm * 8, .inr (.inl Wk))), (oW, .inr (1, [.ref dv, .ref rs, .ref qt, .long kn])), (dv, .inl (cJ, 8, .inr (.inl fd))), (rs, .inl (cJ, 8, .inr (.inl fr))), (qt, .inl (cJ, 8, .inr (.inl fq)))] := hD
  have e_w28 : upd (nF Hh) n (nI ((Hh p9) + 1)) = nF (updN Hh n (Hh p9 + 1)) := nF_u Hh n (Hh p9 + 1)
  rw [e_w28] at hP hD
  refine lv_aload_n hx hb dT_append_29 rfl (lv_at hl 1 rfl) ?_
  refine va_get (D := D) (ci := 2) (v := .ref aT) (C := RT) (T := TT) (N := 13) hx hb hts iT_append_T hown hK hP 0 rfl rfl 6 (by decide) (hts (.fieldLink RT 23 "TreeDesk" "times" "[J") (by decide +kernel)) (fun _ h9 => h9) rfl dT_append_30 ?_
  refine lv_iload hx hb dT_append_33 (lv_at hl 0 rfl) ?_
  refine lv_lload_n hx hb dT_append_35 rfl (lv_at hl 3 rfl) ?_
  refine ar_lst (j := n) hx hb hK hP hD hS 4 1 rfl rfl dT_append_36 (by omega) (by omega) (fun H locs hP hD hS => ?_)
  have hP : va_P D vwCl [(o, .inr (2, [.int (nI rm), .int (nI n), .int (nI bs), .ref aP, .ref aH, .ref aC, .ref aT, .ref aB, .ref aZ, .ref aW, .ref aR, .ref oR, .ref oW])), (aP, .inl (cI, rm, .inl (pF (updN P n p9)))), (aH, .inl (cI, rm, .inl (nF (updN Hh n (Hh p9 + 1))))), (aC, .inl (cI, rm, .inl (nF Ch))), (aT, .inl (cJ, rm, .inr (.inl (vp_updL Tm n t)))), (aB, .inl (cJ, rm, .inr (.inl Bt))), (aW, .inl (cJ, rm * 8, .inr (.inl Wk))), (oW, .inr (1, [.ref dv, .ref rs, .ref qt, .long kn])), (dv, .inl (cJ, 8, .inr (.inl fd))), (rs, .inl (cJ, 8, .inr (.inl fr))), (qt, .inl (cJ, 8, .inr (.inl fq)))] H := hP
  have hD : va_D A [(o, .inr (2, [.int (nI rm), .int (nI n), .int (nI bs), .ref aP, .ref aH, .ref aC, .ref aT, .ref aB, .ref aZ, .ref aW, .ref aR, .ref oR, .ref oW])), (aP, .inl (cI, rm, .inl (pF (updN P n p9)))), (aH, .inl (cI, rm, .inl (nF (updN Hh n (Hh p9 + 1))))), (aC, .inl (cI, rm, .inl (nF Ch))), (aT, .inl (cJ, rm, .inr (.inl (vp_updL Tm n t)))), (aB, .inl (cJ, rm, .inr (.inl Bt))), (aW, .inl (cJ, rm * 8, .inr (.inl Wk))), (oW, .inr (1, [.ref dv, .ref rs, .ref qt, .long kn])), (dv, .inl (cJ, 8, .inr (.inl fd))), (rs, .inl (cJ, 8, .inr (.inl fr))), (qt, .inl (cJ, 8, .inr (.inl fq)))] := hD
  refine lv_aload_n hx hb dT_append_37 rfl (lv_at hl 1 rfl) ?_
  refine va_get (D := D) (ci := 2) (v := .ref aB) (C := RT) (T := TT) (N := 13) hx hb hts iT_append_T hown hK hP 0 rfl rfl 7 (by decide) (hts (.fieldLink RT 27 "TreeDesk" "bitsOf" "[J") (by decide +kernel)) (fun _ h9 => h9) rfl dT_append_38 ?_
  refine lv_iload hx hb dT_append_41 (lv_at hl 0 rfl) ?_
  refine lv_lload hx hb dT_append_43 (lv_at hl 4 rfl) ?_
  refine ar_lst (j := n) hx hb hK hP hD hS 5 1 rfl rfl dT_append_45 (by omega) (by omega) (fun H locs hP hD hS => ?_)
  have hP : va_P D vwCl [(o, .inr (2, [.int (nI rm), .int (nI n), .int (nI bs), .ref aP, .ref aH, .ref aC, .ref aT, .ref aB, .ref aZ, .ref aW, .ref aR, .ref oR, .ref oW])), (aP, .inl (cI, rm, .inl (pF (updN P n p9)))), (aH, .inl (cI, rm, .inl (nF (updN Hh n (Hh p9 + 1))))), (aC, .inl (cI, rm, .inl (nF Ch))), (aT, .inl (cJ, rm, .inr (.inl (vp_updL Tm n t)))), (aB, .inl (cJ, rm, .inr (.inl (vp_updL Bt n kn)))), (aW, .inl (cJ, rm * 8, .inr (.inl Wk))), (oW, .inr (1, [.ref dv, .ref rs, .ref qt, .long kn])), (dv, .inl (cJ, 8, .inr (.inl fd))), (rs, .inl (cJ, 8, .inr (.inl fr))), (qt, .inl (cJ, 8, .inr (.inl fq)))] H := hP
  have hD : va_D A [(o, .inr (2, [.int (nI rm), .int (nI n), .int (nI bs), .ref aP, .ref aH, .ref aC, .ref aT, .ref aB, .ref aZ, .ref aW, .ref aR, .ref oR, .ref oW])), (aP, .inl (cI, rm, .inl (pF (updN P n p9)))), (aH, .inl (cI, rm, .inl (nF (updN Hh n (Hh p9 + 1))))), (aC, .inl (cI, rm, .inl (nF Ch))), (aT, .inl (cJ, rm, .inr (.inl (vp_updL Tm n t)))), (aB, .inl (cJ, rm, .inr (.inl (vp_updL Bt n kn)))), (aW, .inl (cJ, rm * 8, .inr (.inl Wk))), (oW, .inr (1, [.ref dv, .ref rs, .ref qt, .long kn])), (dv, .inl (cJ, 8, .inr (.inl fd))), (rs, .inl (cJ, 8, .inr (.inl fr))), (qt, .inl (cJ, 8, .inr (.inl fq)))] := hD
  refine lv_aload_n hx hb dT_append_46 rfl (lv_at hl 1 rfl) ?_
  refine va_get (D := D) (ci := 2) (v := .ref aC) (C := RT) (T := TT) (N := 13) hx hb hts iT_append_T hown hK hP 0 rfl rfl 5 (by decide) (hts (.fieldLink RT 20 "TreeDesk" "children" "[I") (by decide +kernel)) (fun _ h9 => h9) rfl dT_append_47 ?_
  refine lv_iload_n hx hb dT_append_50 rfl (lv_at hl 2 rfl) ?_
  refine lv_dup2_11 hx hb dT_append_51 rfl rfl ?_
  refine ar_ild (j := p9) hx hb hK hP 3 0 rfl rfl dT_append_52 (by omega) (by omega) ?_
  refine tp_i (y := nI (Ch p9)) rfl ?_
  refine lv_iconst (v := nI 1) hx hb dT_append_53 (by decide) ?_
  refine lv_iadd hx hb dT_append_54 ?_
  refine tp_i (y := nI ((Ch p9) + 1)) (nI_add _ _) ?_
  refine ar_ist (j := p9) hx hb hK hP hD hS 3 0 rfl rfl dT_append_55 (by omega) (by omega) (fun H locs hP hD hS => ?_)
  have hP : va_P D vwCl [(o, .inr (2, [.int (nI rm), .int (nI n), .int (nI bs), .ref aP, .ref aH, .ref aC, .ref aT, .ref aB, .ref aZ, .ref aW, .ref aR, .ref oR, .ref oW])), (aP, .inl (cI, rm, .inl (pF (updN P n p9)))), (aH, .inl (cI, rm, .inl (nF (updN Hh n (Hh p9 + 1))))), (aC, .inl (cI, rm, .inl (upd (nF Ch) p9 (nI ((Ch p9) + 1))))), (aT, .inl (cJ, rm, .inr (.inl (vp_updL Tm n t)))), (aB, .inl (cJ, rm, .inr (.inl (vp_updL Bt n kn)))), (aW, .inl (cJ, rm * 8, .inr (.inl Wk))), (oW, .inr (1, [.ref dv, .ref rs, .ref qt, .long kn])), (dv, .inl (cJ, 8, .inr (.inl fd))), (rs, .inl (cJ, 8, .inr (.inl fr))), (qt, .inl (cJ, 8, .inr (.inl fq)))] H := hP
  have hD : va_D A [(o, .inr (2, [.int (nI rm), .int (nI n), .int (nI bs), .ref aP, .ref aH, .ref aC, .ref aT, .ref aB, .ref aZ, .ref aW, .ref aR, .ref oR, .ref oW])), (aP, .inl (cI, rm, .inl (pF (updN P n p9)))), (aH, .inl (cI, rm, .inl (nF (updN Hh n (Hh p9 + 1))))), (aC, .inl (cI, rm, .inl (upd (nF Ch) p9 (nI ((Ch p9) + 1))))), (aT, .inl (cJ, rm, .inr (.inl (vp_updL Tm n t)))), (aB, .inl (cJ, rm, .inr (.inl (vp_updL Bt n kn)))), (aW, .inl (cJ, rm * 8, .inr (.inl Wk))), (oW, .inr (1, [.ref dv, .ref rs, .ref qt, .long kn])), (dv, .inl (cJ, 8, .inr (.inl fd))), (rs, .inl (cJ, 8, .inr (.inl fr))), (qt, .inl (cJ, 8, .inr (.inl fq)))] := hD
  have e_w55 : upd (nF Ch) p9 (nI ((Ch p9) + 1)) = nF (updN Ch p9 (Ch p9 + 1)) := nF_u Ch p9 (Ch p9 + 1)
  rw [e_w55] at hP hD
  refine lv_aload_n hx hb dT_append_56 rfl (lv_at hl 1 rfl) ?_
  refine lv_iload hx hb dT_append_57 (lv_at hl 0 rfl) ?_
  refine lv_iload_n hx hb dT_append_59 rfl (lv_at hl 2 rfl) ?_
  refine lv_aload_n hx hb dT_append_60 rfl (lv_at hl 1 rfl) ?_
  refine va_get (D := D) (ci := 2) (v := .ref oW) (C := RT) (T := TT) (N := 13) hx hb hts iT_append_T hown hK hP 0 rfl rfl 12 (by decide) (hts (.fieldLink RT 52 "TreeDesk" "worth" "LTreeDesk$Worth;") (by decide +kernel)) (fun _ h9 => h9) rfl dT_append_61 ?_
  refine lv_lload hx hb dT_append_64 (lv_at hl 4 rfl) ?_
  refine rw_k (wc := [(oW, .inr (1, [.ref dv, .ref rs, .ref qt, .long kn])), (dv, .inl (cJ, 8, .inr (.inl fd))), (rs, .inl (cJ, 8, .inr (.inl fr))), (qt, .inl (cJ, 8, .inr (.inl fq)))]) (wr := [(o, .inr (2, [.int (nI rm), .int (nI n), .int (nI bs), .ref aP, .ref aH, .ref aC, .ref aT, .ref aB, .ref aZ, .ref aW, .ref aR, .ref oR, .ref oW])), (aP, .inl (cI, rm, .inl (pF (updN P n p9)))), (aH, .inl (cI, rm, .inl (nF (updN Hh n (Hh p9 + 1))))), (aC, .inl (cI, rm, .inl (nF (updN Ch p9 (Ch p9 + 1))))), (aT, .inl (cJ, rm, .inr (.inl (vp_updL Tm n t)))), (aB, .inl (cJ, rm, .inr (.inl (vp_updL Bt n kn)))), (aW, .inl (cJ, rm * 8, .inr (.inl Wk)))]) (va_runV (As := [.long kn]) (rest := [.int (nI p9), .int (nI n), .ref o]) ⟨hx, hb, hml, hown, hts⟩ (c_W_ofBits_old l D cI cJ cZ oW dv rs qt kn fd fr fq H.size) (cwV 1 hts gT_append_W_ofBits_60 rfl rfl rfl (by decide +kernel) ⟨Nat.le_of_ble_eq_true rfl, Nat.le_of_ble_eq_true rfl⟩) (rw_preV (hP.sub [7, 8, 9, 10] rfl) hK (hD.sub [7, 8, 9, 10] (by decide) rfl) (va_recv hK hP (ci := 1) (q0 := 7) rfl rfl)) rfl rfl hl.1 rfl (lv_room (Nat.le_of_ble_eq_true rfl)) dT_append_66 ⟨Nat.le_of_ble_eq_true rfl, Nat.le_of_ble_eq_true rfl⟩) hP hD hS hA [7, 8, 9, 10] [0, 1, 2, 3, 4, 5, 6] rfl rfl (by decide) (by decide) (fun v9 w9 H locs hp9 hP hD hS => ?_)
  obtain ⟨rfl, rfl⟩ := hp9
  have hP : va_P D vwCl [(o, .inr (2, [.int (nI rm), .int (nI n), .int (nI bs), .ref aP, .ref aH, .ref aC, .ref aT, .ref aB, .ref aZ, .ref aW, .ref aR, .ref oR, .ref oW])), (aP, .inl (cI, rm, .inl (pF (updN P n p9)))), (aH, .inl (cI, rm, .inl (nF (updN Hh n (Hh p9 + 1))))), (aC, .inl (cI, rm, .inl (nF (updN Ch p9 (Ch p9 + 1))))), (aT, .inl (cJ, rm, .inr (.inl (vp_updL Tm n t)))), (aB, .inl (cJ, rm, .inr (.inl (vp_updL Bt n kn)))), (aW, .inl (cJ, rm * 8, .inr (.inl Wk))), (oW, .inr (1, [.ref dv, .ref rs, .ref qt, .long kn])), (dv, .inl (cJ, 8, .inr (.inl fd))), (rs, .inl (cJ, 8, .inr (.inl fr))), (qt, .inl (cJ, 8, .inr (.inl fq)))] H := hP
  have hD : va_D A [(o, .inr (2, [.int (nI rm), .int (nI n), .int (nI bs), .ref aP, .ref aH, .ref aC, .ref aT, .ref aB, .ref aZ, .ref aW, .ref aR, .ref oR, .ref oW])), (aP, .inl (cI, rm, .inl (pF (updN P n p9)))), (aH, .inl (cI, rm, .inl (nF (updN Hh n (Hh p9 + 1))))), (aC, .inl (cI, rm, .inl (nF (updN Ch p9 (Ch p9 + 1))))), (aT, .inl (cJ, rm, .inr (.inl (vp_updL Tm n t)))), (aB, .inl (cJ, rm, .inr (.inl (vp_updL Bt n kn)))), (aW, .inl (cJ, rm * 8, .inr (.inl Wk))), (oW, .inr (1, [.ref dv, .ref rs, .ref qt, .long kn])), (dv, .inl (cJ, 8, .inr (.inl fd))), (rs, .inl (cJ, 8, .inr (.inl fr))), (qt, .inl (cJ, 8, .inr (.inl fq)))] := hD
  refine W.eq (g2 := F0 m 69 ls [.ref qt, .int (nI p9), .int (nI n), .ref o]) rfl ?_
  refine rw_k (wc := [(o, .inr (2, [.int (nI rm), .int (nI n), .int (nI bs), .ref aP, .ref aH, .ref aC, .ref aT, .ref aB, .ref aZ, .ref aW, .ref aR, .ref oR, .ref oW])), (aW, .inl (cJ, rm * 8, .inr (.inl Wk))), (qt, .inl (cJ, 8, .inr (.inl fq)))]) (wr := [(aP, .inl (cI, rm, .inl (pF (updN P n p9)))), (aH, .inl (cI, rm, .inl (nF (updN Hh n (Hh p9 + 1))))), (aC, .inl (cI, rm, .inl (nF (updN Ch p9 (Ch p9 + 1))))), (aT, .inl (cJ, rm, .inr (.inl (vp_updL Tm n t)))), (aB, .inl (cJ, rm, .inr (.inl (vp_updL Bt n kn)))), (oW, .inr (1, [.ref dv, .ref rs, .ref qt, .long kn])), (dv, .inl (cJ, 8, .inr (.inl fd))), (rs, .inl (cJ, 8, .inr (.inl fr)))]) (va_runV (As := [.int (nI n), .int (nI p9), .ref qt]) (rest := []) ⟨hx, hb, hml, hown, hts⟩ (c_sumWork l D cI cJ cZ o rm n bs aP aH aC aT aB aZ aW aR oR oW Wk qt fq n p9 (by omega) (by omega) (by omega) H.size) (cwV 3 hts gT_append_T_sumWork_136 rfl rfl rfl (by decide +kernel) ⟨Nat.le_of_ble_eq_true rfl, Nat.le_of_ble_eq_true rfl⟩) (rw_preV (hP.sub [0, 6, 10] rfl) hK (hD.sub [0, 6, 10] (by decide) rfl) (va_recv hK hP (ci := 2) (q0 := 0) rfl rfl)) rfl rfl hl.1 rfl (lv_room (Nat.le_of_ble_eq_true rfl)) dT_append_69 ⟨Nat.le_of_ble_eq_true rfl, Nat.le_of_ble_eq_true rfl⟩) hP hD hS hA [0, 6, 10] [1, 2, 3, 4, 5, 7, 8, 9] rfl rfl (by decide) (by decide) (fun v9 w9 H locs hp9 hP hD hS => ?_)
  obtain ⟨rfl, rfl⟩ := hp9
  have hP : va_P D vwCl [(aP, .inl (cI, rm, .inl (pF (updN P n p9)))), (aH, .inl (cI, rm, .inl (nF (updN Hh n (Hh p9 + 1))))), (aC, .inl (cI, rm, .inl (nF (updN Ch p9 (Ch p9 + 1))))), (aT, .inl (cJ, rm, .inr (.inl (vp_updL Tm n t)))), (aB, .inl (cJ, rm, .inr (.inl (vp_updL Bt n kn)))), (oW, .inr (1, [.ref dv, .ref rs, .ref qt, .long kn])), (dv, .inl (cJ, 8, .inr (.inl fd))), (rs, .inl (cJ, 8, .inr (.inl fr))), (o, .inr (2, [.int (nI rm), .int (nI n), .int (nI bs), .ref aP, .ref aH, .ref aC, .ref aT, .ref aB, .ref aZ, .ref aW, .ref aR, .ref oR, .ref oW])), (aW, .inl (cJ, rm * 8, .inr (.inl (m_sum fq n p9 Wk)))), (qt, .inl (cJ, 8, .inr (.inl fq)))] H := hP
  have hD : va_D A [(aP, .inl (cI, rm, .inl (pF (updN P n p9)))), (aH, .inl (cI, rm, .inl (nF (updN Hh n (Hh p9 + 1))))), (aC, .inl (cI, rm, .inl (nF (updN Ch p9 (Ch p9 + 1))))), (aT, .inl (cJ, rm, .inr (.inl (vp_updL Tm n t)))), (aB, .inl (cJ, rm, .inr (.inl (vp_updL Bt n kn)))), (oW, .inr (1, [.ref dv, .ref rs, .ref qt, .long kn])), (dv, .inl (cJ, 8, .inr (.inl fd))), (rs, .inl (cJ, 8, .inr (.inl fr))), (o, .inr (2, [.int (nI rm), .int (nI n), .int (nI bs), .ref aP, .ref aH, .ref aC, .ref aT, .ref aB, .ref aZ, .ref aW, .ref aR, .ref oR, .ref oW])), (aW, .inl (cJ, rm * 8, .inr (.inl (m_sum fq n p9 Wk)))), (qt, .inl (cJ, 8, .inr (.inl fq)))] := hD
  refine W.eq (g2 := F0 m 72 ls []) rfl ?_
  refine lv_aload_n hx hb dT_append_72 rfl (lv_at hl 1 rfl) ?_
  refine lv_dup hx hb dT_append_73 rfl ?_
  refine va_get (D := D) (ci := 2) (v := .int (nI n)) (C := RT) (T := TT) (N := 13) hx hb hts iT_append_T hown hK hP 8 rfl rfl 1 (by decide) (hts (.fieldLink RT 70 "TreeDesk" "count" "I") (by decide +kernel)) (fun _ h9 => h9) rfl dT_append_74 ?_
  refine lv_iconst (v := nI 1) hx hb dT_append_77 (by decide) ?_
  refine lv_iadd hx hb dT_append_78 ?_
  refine tp_i (y := nI (n + 1)) (nI_add _ _) ?_
  refine va_put (D := D) (ci := 2) (v := .int (nI (n + 1))) (ty := .int) (C := RT) (T := TT) (N := 13) hx hb hts iT_append_T tyT tyT_ok nmT hown hK hP hD hS 8 rfl rfl 1 (by decide) (hts (.fieldLink RT 70 "TreeDesk" "count" "I") (by decide +kernel)) (fun _ h9 => h9) rfl (by decide +kernel) rfl rfl (Nat.le_of_ble_eq_true rfl) dT_append_79 (fun H locs hP hD hS => ?_)
  have hP : va_P D vwCl [(aP, .inl (cI, rm, .inl (pF (updN P n p9)))), (aH, .inl (cI, rm, .inl (nF (updN Hh n (Hh p9 + 1))))), (aC, .inl (cI, rm, .inl (nF (updN Ch p9 (Ch p9 + 1))))), (aT, .inl (cJ, rm, .inr (.inl (vp_updL Tm n t)))), (aB, .inl (cJ, rm, .inr (.inl (vp_updL Bt n kn)))), (oW, .inr (1, [.ref dv, .ref rs, .ref qt, .long kn])), (dv, .inl (cJ, 8, .inr (.inl fd))), (rs, .inl (cJ, 8, .inr (.inl fr))), (o, .inr (2, [.int (nI rm), .int (nI (n + 1)), .int (nI bs), .ref aP, .ref aH, .ref aC, .ref aT, .ref aB, .ref aZ, .ref aW, .ref aR, .ref oR, .ref oW])), (aW, .inl (cJ, rm * 8, .inr (.inl (m_sum fq n p9 Wk)))), (qt, .inl (cJ, 8, .inr (.inl fq)))] H := hP
  have hD : va_D A [(aP, .inl (cI, rm, .inl (pF (updN P n p9)))), (aH, .inl (cI, rm, .inl (nF (updN Hh n (Hh p9 + 1))))), (aC, .inl (cI, rm, .inl (nF (updN Ch p9 (Ch p9 + 1))))), (aT, .inl (cJ, rm, .inr (.inl (vp_updL Tm n t)))), (aB, .inl (cJ, rm, .inr (.inl (vp_updL Bt n kn)))), (oW, .inr (1, [.ref dv, .ref rs, .ref qt, .long kn])), (dv, .inl (cJ, 8, .inr (.inl fd))), (rs, .inl (cJ, 8, .inr (.inl fr))), (o, .inr (2, [.int (nI rm), .int (nI (n + 1)), .int (nI bs), .ref aP, .ref aH, .ref aC, .ref aT, .ref aB, .ref aZ, .ref aW, .ref aR, .ref oR, .ref oW])), (aW, .inl (cJ, rm * 8, .inr (.inl (m_sum fq n p9 Wk)))), (qt, .inl (cJ, 8, .inr (.inl fq)))] := hD
  refine lv_aload_n hx hb dT_append_82 rfl (lv_at hl 1 rfl) ?_
  refine lv_iload hx hb dT_append_83 (lv_at hl 0 rfl) ?_
  refine lv_aload_n hx hb dT_append_85 rfl (lv_at hl 1 rfl) ?_
  refine va_get (D := D) (ci := 2) (v := .int (nI bs)) (C := RT) (T := TT) (N := 13) hx hb hts iT_append_T hown hK hP 8 rfl rfl 2 (by decide) (hts (.fieldLink RT 73 "TreeDesk" "best" "I") (by decide +kernel)) (fun _ h9 => h9) rfl dT_append_86 ?_
  refine ro_ki (va_runV (As := [.int (nI n), .int (nI bs)]) (rest := []) ⟨hx, hb, hml, hown, hts⟩ (c_compareWorks l D cI cJ cZ o rm (n + 1) bs aP aH aC aT aB aZ aW aR oR oW (m_sum fq n p9 Wk) n bs (by omega) (by omega) (by omega)) (cwV 2 hts gT_append_T_compareWorks_116 rfl rfl rfl (by decide +kernel) ⟨Nat.le_of_ble_eq_true rfl, Nat.le_of_ble_eq_true rfl⟩) (ro_preV (hP.sub [8, 9] rfl) hK (va_recv hK hP (ci := 2) (q0 := 8) rfl rfl)) rfl rfl hl.1 rfl (lv_room (Nat.le_of_ble_eq_true rfl)) dT_append_89 ⟨Nat.le_of_ble_eq_true rfl, Nat.le_of_ble_eq_true rfl⟩) ?_
  refine lv_if_le (tgt := 101) hx hb dT_append_92 (by decide) (fun c_92 => ?_) (fun c_92 => ?_)
  · skip
    refine lv_iload hx hb dT_append_101 (lv_at hl 0 rfl) ?_
    exact rw_iret (w := [(o, .inr (2, [.int (nI rm), .int (nI (n + 1)), .int (nI bs), .ref aP, .ref aH, .ref aC, .ref aT, .ref aB, .ref aZ, .ref aW, .ref aR, .ref oR, .ref oW])), (aP, .inl (cI, rm, .inl (pF (updN P n p9)))), (aH, .inl (cI, rm, .inl (nF (updN Hh n (Hh p9 + 1))))), (aC, .inl (cI, rm, .inl (nF (updN Ch p9 (Ch p9 + 1))))), (aT, .inl (cJ, rm, .inr (.inl (vp_updL Tm n t)))), (aB, .inl (cJ, rm, .inr (.inl (vp_updL Bt n kn)))), (aW, .inl (cJ, rm * 8, .inr (.inl (m_sum fq n p9 Wk)))), (oW, .inr (1, [.ref dv, .ref rs, .ref qt, .long kn])), (dv, .inl (cJ, 8, .inr (.inl fd))), (rs, .inl (cJ, 8, .inr (.inl fr))), (qt, .inl (cJ, 8, .inr (.inl fq)))]) hQ hx hb hr hlocks dT_append_103 (hP.sub [8, 0, 1, 2, 3, 4, 9, 5, 6, 7, 10] rfl) (hD.sub [8, 0, 1, 2, 3, 4, 9, 5, 6, 7, 10] (by decide) rfl) hS ⟨rfl, by rw [if_pos c_92]⟩
  · skip
    refine lv_aload_n hx hb dT_append_95 rfl (lv_at hl 1 rfl) ?_
    refine lv_iload hx hb dT_append_96 (lv_at hl 0 rfl) ?_
    refine va_put (D := D) (ci := 2) (v := .int (nI n)) (ty := .int) (C := RT) (T := TT) (N := 13) hx hb hts iT_append_T tyT tyT_ok nmT hown hK hP hD hS 8 rfl rfl 2 (by decide) (hts (.fieldLink RT 73 "TreeDesk" "best" "I") (by decide +kernel)) (fun _ h9 => h9) rfl (by decide +kernel) rfl rfl (Nat.le_of_ble_eq_true rfl) dT_append_98 (fun H locs hP hD hS => ?_)
    have hP : va_P D vwCl [(aP, .inl (cI, rm, .inl (pF (updN P n p9)))), (aH, .inl (cI, rm, .inl (nF (updN Hh n (Hh p9 + 1))))), (aC, .inl (cI, rm, .inl (nF (updN Ch p9 (Ch p9 + 1))))), (aT, .inl (cJ, rm, .inr (.inl (vp_updL Tm n t)))), (aB, .inl (cJ, rm, .inr (.inl (vp_updL Bt n kn)))), (oW, .inr (1, [.ref dv, .ref rs, .ref qt, .long kn])), (dv, .inl (cJ, 8, .inr (.inl fd))), (rs, .inl (cJ, 8, .inr (.inl fr))), (o, .inr (2, [.int (nI rm), .int (nI (n + 1)), .int (nI n), .ref aP, .ref aH, .ref aC, .ref aT, .ref aB, .ref aZ, .ref aW, .ref aR, .ref oR, .ref oW])), (aW, .inl (cJ, rm * 8, .inr (.inl (m_sum fq n p9 Wk)))), (qt, .inl (cJ, 8, .inr (.inl fq)))] H := hP
    have hD : va_D A [(aP, .inl (cI, rm, .inl (pF (updN P n p9)))), (aH, .inl (cI, rm, .inl (nF (updN Hh n (Hh p9 + 1))))), (aC, .inl (cI, rm, .inl (nF (updN Ch p9 (Ch p9 + 1))))), (aT, .inl (cJ, rm, .inr (.inl (vp_updL Tm n t)))), (aB, .inl (cJ, rm, .inr (.inl (vp_updL Bt n kn)))), (oW, .inr (1, [.ref dv, .ref rs, .ref qt, .long kn])), (dv, .inl (cJ, 8, .inr (.inl fd))), (rs, .inl (cJ, 8, .inr (.inl fr))), (o, .inr (2, [.int (nI rm), .int (nI (n + 1)), .int (nI n), .ref aP, .ref aH, .ref aC, .ref aT, .ref aB, .ref aZ, .ref aW, .ref aR, .ref oR, .ref oW])), (aW, .inl (cJ, rm * 8, .inr (.inl (m_sum fq n p9 Wk)))), (qt, .inl (cJ, 8, .inr (.inl fq)))] := hD
    refine lv_iload hx hb dT_append_101 (lv_at hl 0 rfl) ?_
    exact rw_iret (w := [(o, .inr (2, [.int (nI rm), .int (nI (n + 1)), .int (nI n), .ref aP, .ref aH, .ref aC, .ref aT, .ref aB, .ref aZ, .ref aW, .ref aR, .ref oR, .ref oW])), (aP, .inl (cI, rm, .inl (pF (updN P n p9)))), (aH, .inl (cI, rm, .inl (nF (updN Hh n (Hh p9 + 1))))), (aC, .inl (cI, rm, .inl (nF (updN Ch p9 (Ch p9 + 1))))), (aT, .inl (cJ, rm, .inr (.inl (vp_updL Tm n t)))), (aB, .inl (cJ, rm, .inr (.inl (vp_updL Bt n kn)))), (aW, .inl (cJ, rm * 8, .inr (.inl (m_sum fq n p9 Wk)))), (oW, .inr (1, [.ref dv, .ref rs, .ref qt, .long kn])), (dv, .inl (cJ, 8, .inr (.inl fd))), (rs, .inl (cJ, 8, .inr (.inl fr))), (qt, .inl (cJ, 8, .inr (.inl fq)))]) hQ hx hb hr hlocks dT_append_103 (hP.sub [8, 0, 1, 2, 3, 4, 9, 5, 6, 7, 10] rfl) (hD.sub [8, 0, 1, 2, 3, 4, 9, 5, 6, 7, 10] (by decide) rfl) hS ⟨rfl, by rw [if_neg c_92]⟩

abbrev rm_c_add_nob : Room := { frames := 7, cells := 0, slots := 0, locals := 156 }
set_option maxRecDepth 100000 in
set_option maxHeartbeats 4000000 in
theorem c_add_nob (l : Launch) (D : va_G) (cI cJ cZ : ClassId) (o : Nat) (rm : Nat) (n : Nat) (bs : Nat) (aP : Nat) (aH : Nat) (aC : Nat) (aT : Nat) (aB : Nat) (aZ : Nat) (aW : Nat) (aR : Nat) (oR : Nat) (oW : Nat) (x : Int32) (t : Int64) (b : Int64) (hx9 : ¬ (0 ≤ x ∧ x < nI n)) : ro_C l yT_add wT_add rm_c_add_nob D vwCl (gT cI cJ cZ) [.ref o, .int x, .long t, .long b] [(o, .inr (2, [.int (nI rm), .int (nI n), .int (nI bs), .ref aP, .ref aH, .ref aC, .ref aT, .ref aB, .ref aZ, .ref aW, .ref aR, .ref oR, .ref oW]))] (some (.int (-1))) := by
  refine ro_of (cc := cT_add) (maxL := 6) (ret := some .int) (by decide) rfl (Nat.le_of_ble_eq_true rfl) ?_
  intro p e s m args below meth c Q ls hx hb hr hml hown hts hlocks hK hP hl hQ
  have hl : lv_has ls 6 [(0, .ref o), (1, .int x), (2, .long t), (4, .long b)] := hl
  have hown : s.vm.findClass RT = some m.cls := hown
  refine lv_aload_n hx hb dT_add_0 rfl (lv_at hl 0 rfl) ?_
  refine lv_iload_n hx hb dT_add_1 rfl (lv_at hl 1 rfl) ?_
  refine ro_ki (va_runV (As := [.int x]) (rest := []) ⟨hx, hb, hml, hown, hts⟩ (c_isBlock_no l D cI cJ cZ o rm n bs aP aH aC aT aB aZ aW aR oR oW x hx9) (cwV 1 hts gT_add_T_isBlock_76 rfl rfl rfl (by decide +kernel) ⟨Nat.le_of_ble_eq_true rfl, Nat.le_of_ble_eq_true rfl⟩) (ro_preV (hP.sub [0] rfl) hK (va_recv hK hP (ci := 2) (q0 := 0) rfl rfl)) rfl rfl hl.1 rfl (lv_room (Nat.le_of_ble_eq_true rfl)) dT_add_2 ⟨Nat.le_of_ble_eq_true rfl, Nat.le_of_ble_eq_true rfl⟩) ?_
  refine lv_if_ne (tgt := 10) hx hb dT_add_5 (by decide) (fun c_5 => ?_) (fun c_5 => ?_)
  · skip
    rw [← nI_0] at c_5
    have c_5 : ¬ 0 = 0 := n_ne c_5
    omega
  · skip
    rw [← nI_0] at c_5
    have c_5 : 0 = 0 := n_eq c_5 (by omega) (by omega)
    refine lv_iconst (v := (-1)) hx hb dT_add_8 (by decide) ?_
    exact ro_iret hQ hx hb hr hlocks dT_add_9 rfl

abbrev rm_c_add_bad : Room := { frames := 7, cells := 0, slots := 0, locals := 156 }
set_option maxRecDepth 100000 in
set_option maxHeartbeats 4000000 in
theorem c_add_bad (l : Launch) (D : va_G) (cI cJ cZ : ClassId) (o : Nat) (rm : Nat) (n : Nat) (bs : Nat) (aP : Nat) (aH : Nat) (aC : Nat) (aT : Nat) (aB : Nat) (aZ : Nat) (aW : Nat) (aR : Nat) (oR : Nat) (oW : Nat) (Zb : Nat → Nat) (j : Nat) (t : Int64) (b : Int64) (hn3 : n ≤ rm) (hr3 : rm ≤ 300) (hj : j < n) (hz1 : ¬ Zb j = 0) (hz2 : Zb j < 2) : ro_C l yT_add wT_add rm_c_add_bad D vwCl (gT cI cJ cZ) [.ref o, .int (nI j), .long t, .long b] [(o, .inr (2, [.int (nI rm), .int (nI n), .int (nI bs), .ref aP, .ref aH, .ref aC, .ref aT, .ref aB, .ref aZ, .ref aW, .ref aR, .ref oR, .ref oW])), (aZ, .inl (cZ, rm, .inl (nF Zb)))] (some (.int (-2))) := by
  refine ro_of (cc := cT_add) (maxL := 6) (ret := some .int) (by decide) rfl (Nat.le_of_ble_eq_true rfl) ?_
  intro p e s m args below meth c Q ls hx hb hr hml hown hts hlocks hK hP hl hQ
  have hl : lv_has ls 6 [(0, .ref o), (1, .int (nI j)), (2, .long t), (4, .long b)] := hl
  have hown : s.vm.findClass RT = some m.cls := hown
  refine lv_aload_n hx hb dT_add_0 rfl (lv_at hl 0 rfl) ?_
  refine lv_iload_n hx hb dT_add_1 rfl (lv_at hl 1 rfl) ?_
  refine ro_ki (va_runV (As := [.int (nI j)]) (rest := []) ⟨hx, hb, hml, hown, hts⟩ (c_isBlock_ok l D cI cJ cZ o rm n bs aP aH aC aT aB aZ aW aR oR oW j (by omega) (by omega)) (cwV 1 hts gT_add_T_isBlock_76 rfl rfl rfl (by decide +kernel) ⟨Nat.le_of_ble_eq_true rfl, Nat.le_of_ble_eq_true rfl⟩) (ro_preV (hP.sub [0] rfl) hK (va_recv hK hP (ci := 2) (q0 := 0) rfl rfl)) rfl rfl hl.1 rfl (lv_room (Nat.le_of_ble_eq_true rfl)) dT_add_2 ⟨Nat.le_of_ble_eq_true rfl, Nat.le_of_ble_eq_true rfl⟩) ?_
  refine lv_if_ne (tgt := 10) hx hb dT_add_5 (by decide) (fun c_5 => ?_) (fun c_5 => ?_)
  · skip
    rw [← nI_0] at c_5
    have c_5 : ¬ 1 = 0 := n_ne c_5
    refine lv_aload_n hx hb dT_add_10 rfl (lv_at hl 0 rfl) ?_
    refine va_get (D := D) (ci := 2) (v := .ref aZ) (C := RT) (T := TT) (N := 13) hx hb hts iT_add_T hown hK hP 0 rfl rfl 8 (by decide) (hts (.fieldLink RT 30 "TreeDesk" "bad" "[Z") (by decide +kernel)) (fun _ h9 => h9) rfl dT_add_11 ?_
    refine lv_iload_n hx hb dT_add_14 rfl (lv_at hl 1 rfl) ?_
    refine ar_zld (j := j) hx hb hK hP 1 2 rfl rfl dT_add_15 (by omega) (by omega) ?_
    refine tp_i (y := nI (Zb j)) rfl ?_
    refine lv_if_eq (tgt := 22) hx hb dT_add_16 (by decide) (fun c_16 => ?_) (fun c_16 => ?_)
    · skip
      rw [← nI_0] at c_16
      have c_16 : (Zb j) = 0 := n_eq c_16 (by omega) (by omega)
      omega
    · skip
      rw [← nI_0] at c_16
      have c_16 : ¬ (Zb j) = 0 := n_ne c_16
      refine lv_bipush (v := (-2)) hx hb dT_add_19 (by decide) ?_
      exact ro_iret hQ hx hb hr hlocks dT_add_21 rfl
  · skip
    rw [← nI_0] at c_5
    have c_5 : 1 = 0 := n_eq c_5 (by omega) (by omega)
    omega

abbrev rm_c_add_bitsS : Room := { frames := 7, cells := 0, slots := 0, locals := 156 }
set_option maxRecDepth 100000 in
set_option maxHeartbeats 4000000 in
theorem c_add_bitsS (l : Launch) (D : va_G) (cI cJ cZ : ClassId) (o : Nat) (rm : Nat) (n : Nat) (bs : Nat) (aP : Nat) (aH : Nat) (aC : Nat) (aT : Nat) (aB : Nat) (aZ : Nat) (aW : Nat) (aR : Nat) (oR : Nat) (oW : Nat) (Hh : Nat → Nat) (Bt : Nat → Int64) (Zb : Nat → Nat) (j : Nat) (t : Int64) (b : Int64) (hn3 : n ≤ rm) (hr3 : rm ≤ 300) (hj : j < n) (hHj : Hh j < 300) (hz0 : Zb j = 0) (h8 : ¬ (Hh j + 1) % 8 = 0) (hb9 : ¬ b = Bt j) : ro_C l yT_add wT_add rm_c_add_bitsS D vwCl (gT cI cJ cZ) [.ref o, .int (nI j), .long t, .long b] [(o, .inr (2, [.int (nI rm), .int (nI n), .int (nI bs), .ref aP, .ref aH, .ref aC, .ref aT, .ref aB, .ref aZ, .ref aW, .ref aR, .ref oR, .ref oW])), (aH, .inl (cI, rm, .inl (nF Hh))), (aB, .inl (cJ, rm, .inr (.inl Bt))), (aZ, .inl (cZ, rm, .inl (nF Zb)))] (some (.int (-3))) := by
  refine ro_of (cc := cT_add) (maxL := 6) (ret := some .int) (by decide) rfl (Nat.le_of_ble_eq_true rfl) ?_
  intro p e s m args below meth c Q ls hx hb hr hml hown hts hlocks hK hP hl hQ
  have hl : lv_has ls 6 [(0, .ref o), (1, .int (nI j)), (2, .long t), (4, .long b)] := hl
  have hown : s.vm.findClass RT = some m.cls := hown
  refine lv_aload_n hx hb dT_add_0 rfl (lv_at hl 0 rfl) ?_
  refine lv_iload_n hx hb dT_add_1 rfl (lv_at hl 1 rfl) ?_
  refine ro_ki (va_runV (As := [.int (nI j)]) (rest := []) ⟨hx, hb, hml, hown, hts⟩ (c_isBlock_ok l D cI cJ cZ o rm n bs aP aH aC aT aB aZ aW aR oR oW j (by omega) (by omega)) (cwV 1 hts gT_add_T_isBlock_76 rfl rfl rfl (by decide +kernel) ⟨Nat.le_of_ble_eq_true rfl, Nat.le_of_ble_eq_true rfl⟩) (ro_preV (hP.sub [0] rfl) hK (va_recv hK hP (ci := 2) (q0 := 0) rfl rfl)) rfl rfl hl.1 rfl (lv_room (Nat.le_of_ble_eq_true rfl)) dT_add_2 ⟨Nat.le_of_ble_eq_true rfl, Nat.le_of_ble_eq_true rfl⟩) ?_
  refine lv_if_ne (tgt := 10) hx hb dT_add_5 (by decide) (fun c_5 => ?_) (fun c_5 => ?_)
  · skip
    rw [← nI_0] at c_5
    have c_5 : ¬ 1 = 0 := n_ne c_5
    refine lv_aload_n hx hb dT_add_10 rfl (lv_at hl 0 rfl) ?_
    refine va_get (D := D) (ci := 2) (v := .ref aZ) (C := RT) (T := TT) (N := 13) hx hb hts iT_add_T hown hK hP 0 rfl rfl 8 (by decide) (hts (.fieldLink RT 30 "TreeDesk" "bad" "[Z") (by decide +kernel)) (fun _ h9 => h9) rfl dT_add_11 ?_
    refine lv_iload_n hx hb dT_add_14 rfl (lv_at hl 1 rfl) ?_
    refine ar_zld (j := j) hx hb hK hP 3 2 rfl rfl dT_add_15 (by omega) (by omega) ?_
    refine tp_i (y := nI (Zb j)) rfl ?_
    refine lv_if_eq (tgt := 22) hx hb dT_add_16 (by decide) (fun c_16 => ?_) (fun c_16 => ?_)
    · skip
      rw [← nI_0] at c_16
      have c_16 : (Zb j) = 0 := n_eq c_16 (by omega) (by omega)
      refine lv_lload hx hb dT_add_22 (lv_at hl 3 rfl) ?_
      refine lv_aload_n hx hb dT_add_24 rfl (lv_at hl 0 rfl) ?_
      refine lv_iload_n hx hb dT_add_25 rfl (lv_at hl 1 rfl) ?_
      refine ro_kl (va_runV (As := [.int (nI j)]) (rest := [.long b]) ⟨hx, hb, hml, hown, hts⟩ (c_must_same l D cI cJ cZ o rm n bs aP aH aC aT aB aZ aW aR oR oW Hh Bt j (by omega) (by omega) (by omega) (by omega) h8) (cwV 1 hts gT_add_T_must_80 rfl rfl rfl (by decide +kernel) ⟨Nat.le_of_ble_eq_true rfl, Nat.le_of_ble_eq_true rfl⟩) (ro_preV (hP.sub [0, 1, 2] rfl) hK (va_recv hK hP (ci := 2) (q0 := 0) rfl rfl)) rfl rfl hl.1 rfl (lv_room (Nat.le_of_ble_eq_true rfl)) dT_add_26 ⟨Nat.le_of_ble_eq_true rfl, Nat.le_of_ble_eq_true rfl⟩) ?_
      refine lc_eq (tgt := 36) hx hb dT_add_29 dT_add_30 (by decide) (fun c_30 => ?_) (fun c_30 => ?_)
      · skip
        exact absurd c_30 hb9
      · skip
        refine lv_bipush (v := (-3)) hx hb dT_add_33 (by decide) ?_
        exact ro_iret hQ hx hb hr hlocks dT_add_35 rfl
    · skip
      rw [← nI_0] at c_16
      have c_16 : ¬ (Zb j) = 0 := n_ne c_16
      omega
  · skip
    rw [← nI_0] at c_5
    have c_5 : 1 = 0 := n_eq c_5 (by omega) (by omega)
    omega

abbrev rm_c_add_timeS : Room := { frames := 7, cells := 0, slots := 0, locals := 156 }
set_option maxRecDepth 100000 in
set_option maxHeartbeats 4000000 in
theorem c_add_timeS (l : Launch) (D : va_G) (cI cJ cZ : ClassId) (o : Nat) (rm : Nat) (n : Nat) (bs : Nat) (aP : Nat) (aH : Nat) (aC : Nat) (aT : Nat) (aB : Nat) (aZ : Nat) (aW : Nat) (aR : Nat) (oR : Nat) (oW : Nat) (P : Nat → Nat) (Hh : Nat → Nat) (Tm : Nat → Int64) (Bt : Nat → Int64) (Zb : Nat → Nat) (Rk : Nat → Int64) (aQ : Nat) (pr : Nat → Int64) (j : Nat) (t : Int64) (b : Int64) (hn3 : n ≤ rm) (hr3 : rm ≤ 300) (hj : j < n) (hHj : Hh j < 300) (hz0 : Zb j = 0) (h8 : ¬ (Hh j + 1) % 8 = 0) (hb9 : b = Bt j) (ht9 : ¬ ((m_med P Tm 11 0 (j + 1) Rk).1 ((m_med P Tm 11 0 (j + 1) Rk).2 / 2) < t ∧ t ≤ 4294967295)) (hpar : ∀ x : Nat, 0 < x → x < n → P x < x) : rw_C l yT_add wT_add rm_c_add_timeS D vwCl (gT cI cJ cZ) [.ref o, .int (nI j), .long t, .long b] [(o, .inr (2, [.int (nI rm), .int (nI n), .int (nI bs), .ref aP, .ref aH, .ref aC, .ref aT, .ref aB, .ref aZ, .ref aW, .ref aR, .ref oR, .ref oW])), (aP, .inl (cI, rm, .inl (pF P))), (aH, .inl (cI, rm, .inl (nF Hh))), (aT, .inl (cJ, rm, .inr (.inl Tm))), (aB, .inl (cJ, rm, .inr (.inl Bt))), (aZ, .inl (cZ, rm, .inl (nF Zb))), (aR, .inl (cJ, 11, .inr (.inl Rk))), (oR, .inr (0, [.ref aQ])), (aQ, .inl (cJ, 9, .inr (.inl pr)))] (fun v9 w9 => v9 = some (.int (-4)) ∧ w9 = [(o, .inr (2, [.int (nI rm), .int (nI n), .int (nI bs), .ref aP, .ref aH, .ref aC, .ref aT, .ref aB, .ref aZ, .ref aW, .ref aR, .ref oR, .ref oW])), (aP, .inl (cI, rm, .inl (pF P))), (aH, .inl (cI, rm, .inl (nF Hh))), (aT, .inl (cJ, rm, .inr (.inl Tm))), (aB, .inl (cJ, rm, .inr (.inl Bt))), (aZ, .inl (cZ, rm, .inl (nF Zb))), (aR, .inl (cJ, 11, .inr (.inl ((m_med P Tm 11 0 (j + 1) Rk).1)))), (oR, .inr (0, [.ref aQ])), (aQ, .inl (cJ, 9, .inr (.inl pr)))]) 0 0 := by
  refine rw_of (cc := cT_add) (maxL := 6) (ret := some .int) (by decide) rfl (Nat.le_of_ble_eq_true rfl) ?_
  intro p e s m args below meth c Q A ls hx hb hr hml hown hts hlocks hin hK hP hD hA hl hQ
  have hS : va_S A s.heap s.heap [] := va_S.rf
  have hl : lv_has ls 6 [(0, .ref o), (1, .int (nI j)), (2, .long t), (4, .long b)] := hl
  have hown : s.vm.findClass RT = some m.cls := hown
  obtain ⟨H, hHe⟩ : ∃ H : Heap, H = s.heap := ⟨_, rfl⟩
  rw [← hHe] at hP
  have hS : va_S A s.heap H [] := by rw [hHe]; exact va_S.rf
  suffices h9 : W p l e rm_c_add_timeS s m args below meth c H [] 0 0 Q (F0 m 0 ls []) by rw [hHe] at h9; exact h9
  clear hHe
  refine lv_aload_n hx hb dT_add_0 rfl (lv_at hl 0 rfl) ?_
  refine lv_iload_n hx hb dT_add_1 rfl (lv_at hl 1 rfl) ?_
  refine ro_ki (va_runV (As := [.int (nI j)]) (rest := []) ⟨hx, hb, hml, hown, hts⟩ (c_isBlock_ok l D cI cJ cZ o rm n bs aP aH aC aT aB aZ aW aR oR oW j (by omega) (by omega)) (cwV 1 hts gT_add_T_isBlock_76 rfl rfl rfl (by decide +kernel) ⟨Nat.le_of_ble_eq_true rfl, Nat.le_of_ble_eq_true rfl⟩) (ro_preV (hP.sub [0] rfl) hK (va_recv hK hP (ci := 2) (q0 := 0) rfl rfl)) rfl rfl hl.1 rfl (lv_room (Nat.le_of_ble_eq_true rfl)) dT_add_2 ⟨Nat.le_of_ble_eq_true rfl, Nat.le_of_ble_eq_true rfl⟩) ?_
  refine lv_if_ne (tgt := 10) hx hb dT_add_5 (by decide) (fun c_5 => ?_) (fun c_5 => ?_)
  · skip
    rw [← nI_0] at c_5
    have c_5 : ¬ 1 = 0 := n_ne c_5
    refine lv_aload_n hx hb dT_add_10 rfl (lv_at hl 0 rfl) ?_
    refine va_get (D := D) (ci := 2) (v := .ref aZ) (C := RT) (T := TT) (N := 13) hx hb hts iT_add_T hown hK hP 0 rfl rfl 8 (by decide) (hts (.fieldLink RT 30 "TreeDesk" "bad" "[Z") (by decide +kernel)) (fun _ h9 => h9) rfl dT_add_11 ?_
    refine lv_iload_n hx hb dT_add_14 rfl (lv_at hl 1 rfl) ?_
    refine ar_zld (j := j) hx hb hK hP 5 2 rfl rfl dT_add_15 (by omega) (by omega) ?_
    refine tp_i (y := nI (Zb j)) rfl ?_
    refine lv_if_eq (tgt := 22) hx hb dT_add_16 (by decide) (fun c_16 => ?_) (fun c_16 => ?_)
    · skip
      rw [← nI_0] at c_16
      have c_16 : (Zb j) = 0 := n_eq c_16 (by omega) (by omega)
      refine lv_lload hx hb dT_add_22 (lv_at hl 3 rfl) ?_
      refine lv_aload_n hx hb dT_add_24 rfl (lv_at hl 0 rfl) ?_
      refine lv_iload_n hx hb dT_add_25 rfl (lv_at hl 1 rfl) ?_
      refine ro_kl (va_runV (As := [.int (nI j)]) (rest := [.long b]) ⟨hx, hb, hml, hown, hts⟩ (c_must_same l D cI cJ cZ o rm n bs aP aH aC aT aB aZ aW aR oR oW Hh Bt j (by omega) (by omega) (by omega) (by omega) h8) (cwV 1 hts gT_add_T_must_80 rfl rfl rfl (by decide +kernel) ⟨Nat.le_of_ble_eq_true rfl, Nat.le_of_ble_eq_true rfl⟩) (ro_preV (hP.sub [0, 2, 4] rfl) hK (va_recv hK hP (ci := 2) (q0 := 0) rfl rfl)) rfl rfl hl.1 rfl (lv_room (Nat.le_of_ble_eq_true rfl)) dT_add_26 ⟨Nat.le_of_ble_eq_true rfl, Nat.le_of_ble_eq_true rfl⟩) ?_
      refine lc_eq (tgt := 36) hx hb dT_add_29 dT_add_30 (by decide) (fun c_30 => ?_) (fun c_30 => ?_)
      · skip
        refine lv_lload_n hx hb dT_add_36 rfl (lv_at hl 2 rfl) ?_
        refine lv_aload_n hx hb dT_add_37 rfl (lv_at hl 0 rfl) ?_
        refine lv_iload_n hx hb dT_add_38 rfl (lv_at hl 1 rfl) ?_
        refine rw_k (wc := [(o, .inr (2, [.int (nI rm), .int (nI n), .int (nI bs), .ref aP, .ref aH, .ref aC, .ref aT, .ref aB, .ref aZ, .ref aW, .ref aR, .ref oR, .ref oW])), (aP, .inl (cI, rm, .inl (pF P))), (aT, .inl (cJ, rm, .inr (.inl Tm))), (aR, .inl (cJ, 11, .inr (.inl Rk)))]) (wr := [(aH, .inl (cI, rm, .inl (nF Hh))), (aB, .inl (cJ, rm, .inr (.inl Bt))), (aZ, .inl (cZ, rm, .inl (nF Zb))), (oR, .inr (0, [.ref aQ])), (aQ, .inl (cJ, 9, .inr (.inl pr)))]) (va_runV (As := [.int (nI j)]) (rest := [.long t]) ⟨hx, hb, hml, hown, hts⟩ (c_median_ok l D cI cJ cZ o rm n bs aP aH aC aT aB aZ aW aR oR oW P Tm Rk j (by omega) (by omega) (by omega) hpar H.size) (cwV 1 hts gT_add_T_median_84 rfl rfl rfl (by decide +kernel) ⟨Nat.le_of_ble_eq_true rfl, Nat.le_of_ble_eq_true rfl⟩) (rw_preV (hP.sub [0, 1, 3, 6] rfl) hK (hD.sub [0, 1, 3, 6] (by decide) rfl) (va_recv hK hP (ci := 2) (q0 := 0) rfl rfl)) rfl rfl hl.1 rfl (lv_room (Nat.le_of_ble_eq_true rfl)) dT_add_39 ⟨Nat.le_of_ble_eq_true rfl, Nat.le_of_ble_eq_true rfl⟩) hP hD hS hA [0, 1, 3, 6] [2, 4, 5, 7, 8] rfl rfl (by decide) (by decide) (fun v9 w9 H locs hp9 hP hD hS => ?_)
        obtain ⟨rfl, rfl⟩ := hp9
        have hP : va_P D vwCl [(aH, .inl (cI, rm, .inl (nF Hh))), (aB, .inl (cJ, rm, .inr (.inl Bt))), (aZ, .inl (cZ, rm, .inl (nF Zb))), (oR, .inr (0, [.ref aQ])), (aQ, .inl (cJ, 9, .inr (.inl pr))), (o, .inr (2, [.int (nI rm), .int (nI n), .int (nI bs), .ref aP, .ref aH, .ref aC, .ref aT, .ref aB, .ref aZ, .ref aW, .ref aR, .ref oR, .ref oW])), (aP, .inl (cI, rm, .inl (pF P))), (aT, .inl (cJ, rm, .inr (.inl Tm))), (aR, .inl (cJ, 11, .inr (.inl ((m_med P Tm 11 0 (j + 1) Rk).1))))] H := hP
        have hD : va_D A [(aH, .inl (cI, rm, .inl (nF Hh))), (aB, .inl (cJ, rm, .inr (.inl Bt))), (aZ, .inl (cZ, rm, .inl (nF Zb))), (oR, .inr (0, [.ref aQ])), (aQ, .inl (cJ, 9, .inr (.inl pr))), (o, .inr (2, [.int (nI rm), .int (nI n), .int (nI bs), .ref aP, .ref aH, .ref aC, .ref aT, .ref aB, .ref aZ, .ref aW, .ref aR, .ref oR, .ref oW])), (aP, .inl (cI, rm, .inl (pF P))), (aT, .inl (cJ, rm, .inr (.inl Tm))), (aR, .inl (cJ, 11, .inr (.inl ((m_med P Tm 11 0 (j + 1) Rk).1))))] := hD
        refine W.eq (g2 := F0 m 42 ls [.long ((m_med P Tm 11 0 (j + 1) Rk).1 ((m_med P Tm 11 0 (j + 1) Rk).2 / 2)), .long t]) rfl ?_
        refine lc_le (tgt := 54) hx hb dT_add_42 dT_add_43 (by decide) (fun c_43 => ?_) (fun c_43 => ?_)
        · skip
          refine lv_bipush (v := (-4)) hx hb dT_add_54 (by decide) ?_
          exact rw_iret (w := [(o, .inr (2, [.int (nI rm), .int (nI n), .int (nI bs), .ref aP, .ref aH, .ref aC, .ref aT, .ref aB, .ref aZ, .ref aW, .ref aR, .ref oR, .ref oW])), (aP, .inl (cI, rm, .inl (pF P))), (aH, .inl (cI, rm, .inl (nF Hh))), (aT, .inl (cJ, rm, .inr (.inl Tm))), (aB, .inl (cJ, rm, .inr (.inl Bt))), (aZ, .inl (cZ, rm, .inl (nF Zb))), (aR, .inl (cJ, 11, .inr (.inl ((m_med P Tm 11 0 (j + 1) Rk).1)))), (oR, .inr (0, [.ref aQ])), (aQ, .inl (cJ, 9, .inr (.inl pr)))]) hQ hx hb hr hlocks dT_add_56 (hP.sub [5, 6, 0, 7, 1, 2, 8, 3, 4] rfl) (hD.sub [5, 6, 0, 7, 1, 2, 8, 3, 4] (by decide) rfl) hS ⟨rfl, rfl⟩
        · skip
          refine lv_lload_n hx hb dT_add_46 rfl (lv_at hl 2 rfl) ?_
          refine lv_ldc2 (v := 4294967295) hx hb hown (hts (.constantLong RT 56 4294967295) (by decide +kernel)) dT_add_47 ?_
          refine lc_le (tgt := 57) hx hb dT_add_50 dT_add_51 (by decide) (fun c_51 => ?_) (fun c_51 => ?_)
          · skip
            exact absurd ⟨Int64.not_le.mp c_43, c_51⟩ ht9
          · skip
            refine lv_bipush (v := (-4)) hx hb dT_add_54 (by decide) ?_
            exact rw_iret (w := [(o, .inr (2, [.int (nI rm), .int (nI n), .int (nI bs), .ref aP, .ref aH, .ref aC, .ref aT, .ref aB, .ref aZ, .ref aW, .ref aR, .ref oR, .ref oW])), (aP, .inl (cI, rm, .inl (pF P))), (aH, .inl (cI, rm, .inl (nF Hh))), (aT, .inl (cJ, rm, .inr (.inl Tm))), (aB, .inl (cJ, rm, .inr (.inl Bt))), (aZ, .inl (cZ, rm, .inl (nF Zb))), (aR, .inl (cJ, 11, .inr (.inl ((m_med P Tm 11 0 (j + 1) Rk).1)))), (oR, .inr (0, [.ref aQ])), (aQ, .inl (cJ, 9, .inr (.inl pr)))]) hQ hx hb hr hlocks dT_add_56 (hP.sub [5, 6, 0, 7, 1, 2, 8, 3, 4] rfl) (hD.sub [5, 6, 0, 7, 1, 2, 8, 3, 4] (by decide) rfl) hS ⟨rfl, rfl⟩
      · skip
        exact absurd hb9 c_30
    · skip
      rw [← nI_0] at c_16
      have c_16 : ¬ (Zb j) = 0 := n_ne c_16
      omega
  · skip
    rw [← nI_0] at c_5
    have c_5 : 1 = 0 := n_eq c_5 (by omega) (by omega)
    omega

abbrev rm_c_add_fullS : Room := { frames := 7, cells := 0, slots := 0, locals := 156 }
set_option maxRecDepth 100000 in
set_option maxHeartbeats 4000000 in
theorem c_add_fullS (l : Launch) (D : va_G) (cI cJ cZ : ClassId) (o : Nat) (rm : Nat) (n : Nat) (bs : Nat) (aP : Nat) (aH : Nat) (aC : Nat) (aT : Nat) (aB : Nat) (aZ : Nat) (aW : Nat) (aR : Nat) (oR : Nat) (oW : Nat) (P : Nat → Nat) (Hh : Nat → Nat) (Tm : Nat → Int64) (Bt : Nat → Int64) (Zb : Nat → Nat) (Rk : Nat → Int64) (aQ : Nat) (pr : Nat → Int64) (j : Nat) (t : Int64) (b : Int64) (hn3 : n ≤ rm) (hr3 : rm ≤ 300) (hj : j < n) (hHj : Hh j < 300) (hz0 : Zb j = 0) (h8 : ¬ (Hh j + 1) % 8 = 0) (hb9 : b = Bt j) (ht9 : (m_med P Tm 11 0 (j + 1) Rk).1 ((m_med P Tm 11 0 (j + 1) Rk).2 / 2) < t) (ht8 : t ≤ 4294967295) (hfl : n = rm) (hpar : ∀ x : Nat, 0 < x → x < n → P x < x) : rw_C l yT_add wT_add rm_c_add_fullS D vwCl (gT cI cJ cZ) [.ref o, .int (nI j), .long t, .long b] [(o, .inr (2, [.int (nI rm), .int (nI n), .int (nI bs), .ref aP, .ref aH, .ref aC, .ref aT, .ref aB, .ref aZ, .ref aW, .ref aR, .ref oR, .ref oW])), (aP, .inl (cI, rm, .inl (pF P))), (aH, .inl (cI, rm, .inl (nF Hh))), (aT, .inl (cJ, rm, .inr (.inl Tm))), (aB, .inl (cJ, rm, .inr (.inl Bt))), (aZ, .inl (cZ, rm, .inl (nF Zb))), (aR, .inl (cJ, 11, .inr (.inl Rk))), (oR, .inr (0, [.ref aQ])), (aQ, .inl (cJ, 9, .inr (.inl pr)))] (fun v9 w9 => v9 = some (.int (-5)) ∧ w9 = [(o, .inr (2, [.int (nI rm), .int (nI n), .int (nI bs), .ref aP, .ref aH, .ref aC, .ref aT, .ref aB, .ref aZ, .ref aW, .ref aR, .ref oR, .ref oW])), (aP, .inl (cI, rm, .inl (pF P))), (aH, .inl (cI, rm, .inl (nF Hh))), (aT, .inl (cJ, rm, .inr (.inl Tm))), (aB, .inl (cJ, rm, .inr (.inl Bt))), (aZ, .inl (cZ, rm, .inl (nF Zb))), (aR, .inl (cJ, 11, .inr (.inl ((m_med P Tm 11 0 (j + 1) Rk).1)))), (oR, .inr (0, [.ref aQ])), (aQ, .inl (cJ, 9, .inr (.inl pr)))]) 0 0 := by
  refine rw_of (cc := cT_add) (maxL := 6) (ret := some .int) (by decide) rfl (Nat.le_of_ble_eq_true rfl) ?_
  intro p e s m args below meth c Q A ls hx hb hr hml hown hts hlocks hin hK hP hD hA hl hQ
  have hS : va_S A s.heap s.heap [] := va_S.rf
  have hl : lv_has ls 6 [(0, .ref o), (1, .int (nI j)), (2, .long t), (4, .long b)] := hl
  have hown : s.vm.findClass RT = some m.cls := hown
  obtain ⟨H, hHe⟩ : ∃ H : Heap, H = s.heap := ⟨_, rfl⟩
  rw [← hHe] at hP
  have hS : va_S A s.heap H [] := by rw [hHe]; exact va_S.rf
  suffices h9 : W p l e rm_c_add_fullS s m args below meth c H [] 0 0 Q (F0 m 0 ls []) by rw [hHe] at h9; exact h9
  clear hHe
  refine lv_aload_n hx hb dT_add_0 rfl (lv_at hl 0 rfl) ?_
  refine lv_iload_n hx hb dT_add_1 rfl (lv_at hl 1 rfl) ?_
  refine ro_ki (va_runV (As := [.int (nI j)]) (rest := []) ⟨hx, hb, hml, hown, hts⟩ (c_isBlock_ok l D cI cJ cZ o rm n bs aP aH aC aT aB aZ aW aR oR oW j (by omega) (by omega)) (cwV 1 hts gT_add_T_isBlock_76 rfl rfl rfl (by decide +kernel) ⟨Nat.le_of_ble_eq_true rfl, Nat.le_of_ble_eq_true rfl⟩) (ro_preV (hP.sub [0] rfl) hK (va_recv hK hP (ci := 2) (q0 := 0) rfl rfl)) rfl rfl hl.1 rfl (lv_room (Nat.le_of_ble_eq_true rfl)) dT_add_2 ⟨Nat.le_of_ble_eq_true rfl, Nat.le_of_ble_eq_true rfl⟩) ?_
  refine lv_if_ne (tgt := 10) hx hb dT_add_5 (by decide) (fun c_5 => ?_) (fun c_5 => ?_)
  · skip
    rw [← nI_0] at c_5
    have c_5 : ¬ 1 = 0 := n_ne c_5
    refine lv_aload_n hx hb dT_add_10 rfl (lv_at hl 0 rfl) ?_
    refine va_get (D := D) (ci := 2) (v := .ref aZ) (C := RT) (T := TT) (N := 13) hx hb hts iT_add_T hown hK hP 0 rfl rfl 8 (by decide) (hts (.fieldLink RT 30 "TreeDesk" "bad" "[Z") (by decide +kernel)) (fun _ h9 => h9) rfl dT_add_11 ?_
    refine lv_iload_n hx hb dT_add_14 rfl (lv_at hl 1 rfl) ?_
    refine ar_zld (j := j) hx hb hK hP 5 2 rfl rfl dT_add_15 (by omega) (by omega) ?_
    refine tp_i (y := nI (Zb j)) rfl ?_
    refine lv_if_eq (tgt := 22) hx hb dT_add_16 (by decide) (fun c_16 => ?_) (fun c_16 => ?_)
    · skip
      rw [← nI_0] at c_16
      have c_16 : (Zb j) = 0 := n_eq c_16 (by omega) (by omega)
      refine lv_lload hx hb dT_add_22 (lv_at hl 3 rfl) ?_
      refine lv_aload_n hx hb dT_add_24 rfl (lv_at hl 0 rfl) ?_
      refine lv_iload_n hx hb dT_add_25 rfl (lv_at hl 1 rfl) ?_
      refine ro_kl (va_runV (As := [.int (nI j)]) (rest := [.long b]) ⟨hx, hb, hml, hown, hts⟩ (c_must_same l D cI cJ cZ o rm n bs aP aH aC aT aB aZ aW aR oR oW Hh Bt j (by omega) (by omega) (by omega) (by omega) h8) (cwV 1 hts gT_add_T_must_80 rfl rfl rfl (by decide +kernel) ⟨Nat.le_of_ble_eq_true rfl, Nat.le_of_ble_eq_true rfl⟩) (ro_preV (hP.sub [0, 2, 4] rfl) hK (va_recv hK hP (ci := 2) (q0 := 0) rfl rfl)) rfl rfl hl.1 rfl (lv_room (Nat.le_of_ble_eq_true rfl)) dT_add_26 ⟨Nat.le_of_ble_eq_true rfl, Nat.le_of_ble_eq_true rfl⟩) ?_
      refine lc_eq (tgt := 36) hx hb dT_add_29 dT_add_30 (by decide) (fun c_30 => ?_) (fun c_30 => ?_)
      · skip
        refine lv_lload_n hx hb dT_add_36 rfl (lv_at hl 2 rfl) ?_
        refine lv_aload_n hx hb dT_add_37 rfl (lv_at hl 0 rfl) ?_
        refine lv_iload_n hx hb dT_add_38 rfl (lv_at hl 1 rfl) ?_
        refine rw_k (wc := [(o, .inr (2, [.int (nI rm), .int (nI n), .int (nI bs), .ref aP, .ref aH, .ref aC, .ref aT, .ref aB, .ref aZ, .ref aW, .ref aR, .ref oR, .ref oW])), (aP, .inl (cI, rm, .inl (pF P))), (aT, .inl (cJ, rm, .inr (.inl Tm))), (aR, .inl (cJ, 11, .inr (.inl Rk)))]) (wr := [(aH, .inl (cI, rm, .inl (nF Hh))), (aB, .inl (cJ, rm, .inr (.inl Bt))), (aZ, .inl (cZ, rm, .inl (nF Zb))), (oR, .inr (0, [.ref aQ])), (aQ, .inl (cJ, 9, .inr (.inl pr)))]) (va_runV (As := [.int (nI j)]) (rest := [.long t]) ⟨hx, hb, hml, hown, hts⟩ (c_median_ok l D cI cJ cZ o rm n bs aP aH aC aT aB aZ aW aR oR oW P Tm Rk j (by omega) (by omega) (by omega) hpar H.size) (cwV 1 hts gT_add_T_median_84 rfl rfl rfl (by decide +kernel) ⟨Nat.le_of_ble_eq_true rfl, Nat.le_of_ble_eq_true rfl⟩) (rw_preV (hP.sub [0, 1, 3, 6] rfl) hK (hD.sub [0, 1, 3, 6] (by decide) rfl) (va_recv hK hP (ci := 2) (q0 := 0) rfl rfl)) rfl rfl hl.1 rfl (lv_room (Nat.le_of_ble_eq_true rfl)) dT_add_39 ⟨Nat.le_of_ble_eq_true rfl, Nat.le_of_ble_eq_true rfl⟩) hP hD hS hA [0, 1, 3, 6] [2, 4, 5, 7, 8] rfl rfl (by decide) (by decide) (fun v9 w9 H locs hp9 hP hD hS => ?_)
        obtain ⟨rfl, rfl⟩ := hp9
        have hP : va_P D vwCl [(aH, .inl (cI, rm, .inl (nF Hh))), (aB, .inl (cJ, rm, .inr (.inl Bt))), (aZ, .inl (cZ, rm, .inl (nF Zb))), (oR, .inr (0, [.ref aQ])), (aQ, .inl (cJ, 9, .inr (.inl pr))), (o, .inr (2, [.int (nI rm), .int (nI n), .int (nI bs), .ref aP, .ref aH, .ref aC, .ref aT, .ref aB, .ref aZ, .ref aW, .ref aR, .ref oR, .ref oW])), (aP, .inl (cI, rm, .inl (pF P))), (aT, .inl (cJ, rm, .inr (.inl Tm))), (aR, .inl (cJ, 11, .inr (.inl ((m_med P Tm 11 0 (j + 1) Rk).1))))] H := hP
        have hD : va_D A [(aH, .inl (cI, rm, .inl (nF Hh))), (aB, .inl (cJ, rm, .inr (.inl Bt))), (aZ, .inl (cZ, rm, .inl (nF Zb))), (oR, .inr (0, [.ref aQ])), (aQ, .inl (cJ, 9, .inr (.inl pr))), (o, .inr (2, [.int (nI rm), .int (nI n), .int (nI bs), .ref aP, .ref aH, .ref aC, .ref aT, .ref aB, .ref aZ, .ref aW, .ref aR, .ref oR, .ref oW])), (aP, .inl (cI, rm, .inl (pF P))), (aT, .inl (cJ, rm, .inr (.inl Tm))), (aR, .inl (cJ, 11, .inr (.inl ((m_med P Tm 11 0 (j + 1) Rk).1))))] := hD
        refine W.eq (g2 := F0 m 42 ls [.long ((m_med P Tm 11 0 (j + 1) Rk).1 ((m_med P Tm 11 0 (j + 1) Rk).2 / 2)), .long t]) rfl ?_
        refine lc_le (tgt := 54) hx hb dT_add_42 dT_add_43 (by decide) (fun c_43 => ?_) (fun c_43 => ?_)
        · skip
          exact absurd ht9 (Int64.not_lt.mpr c_43)
        · skip
          refine lv_lload_n hx hb dT_add_46 rfl (lv_at hl 2 rfl) ?_
          refine lv_ldc2 (v := 4294967295) hx hb hown (hts (.constantLong RT 56 4294967295) (by decide +kernel)) dT_add_47 ?_
          refine lc_le (tgt := 57) hx hb dT_add_50 dT_add_51 (by decide) (fun c_51 => ?_) (fun c_51 => ?_)
          · skip
            refine lv_aload_n hx hb dT_add_57 rfl (lv_at hl 0 rfl) ?_
            refine va_get (D := D) (ci := 2) (v := .int (nI n)) (C := RT) (T := TT) (N := 13) hx hb hts iT_add_T hown hK hP 5 rfl rfl 1 (by decide) (hts (.fieldLink RT 70 "TreeDesk" "count" "I") (by decide +kernel)) (fun _ h9 => h9) rfl dT_add_58 ?_
            refine lv_aload_n hx hb dT_add_61 rfl (lv_at hl 0 rfl) ?_
            refine va_get (D := D) (ci := 2) (v := .int (nI rm)) (C := RT) (T := TT) (N := 13) hx hb hts iT_add_T hown hK hP 5 rfl rfl 0 (by decide) (hts (.fieldLink RT 9 "TreeDesk" "room" "I") (by decide +kernel)) (fun _ h9 => h9) rfl dT_add_62 ?_
            refine lv_icmp_lt (tgt := 71) hx hb dT_add_65 (by decide) (fun c_65 => ?_) (fun c_65 => ?_)
            · skip
              have c_65 : n < rm := n_lt c_65 (by omega) (by omega)
              omega
            · skip
              have c_65 : rm ≤ n := n_nlt c_65 (by omega) (by omega)
              refine lv_bipush (v := (-5)) hx hb dT_add_68 (by decide) ?_
              exact rw_iret (w := [(o, .inr (2, [.int (nI rm), .int (nI n), .int (nI bs), .ref aP, .ref aH, .ref aC, .ref aT, .ref aB, .ref aZ, .ref aW, .ref aR, .ref oR, .ref oW])), (aP, .inl (cI, rm, .inl (pF P))), (aH, .inl (cI, rm, .inl (nF Hh))), (aT, .inl (cJ, rm, .inr (.inl Tm))), (aB, .inl (cJ, rm, .inr (.inl Bt))), (aZ, .inl (cZ, rm, .inl (nF Zb))), (aR, .inl (cJ, 11, .inr (.inl ((m_med P Tm 11 0 (j + 1) Rk).1)))), (oR, .inr (0, [.ref aQ])), (aQ, .inl (cJ, 9, .inr (.inl pr)))]) hQ hx hb hr hlocks dT_add_70 (hP.sub [5, 6, 0, 7, 1, 2, 8, 3, 4] rfl) (hD.sub [5, 6, 0, 7, 1, 2, 8, 3, 4] (by decide) rfl) hS ⟨rfl, rfl⟩
          · skip
            exact absurd ht8 c_51
      · skip
        exact absurd hb9 c_30
    · skip
      rw [← nI_0] at c_16
      have c_16 : ¬ (Zb j) = 0 := n_ne c_16
      omega
  · skip
    rw [← nI_0] at c_5
    have c_5 : 1 = 0 := n_eq c_5 (by omega) (by omega)
    omega

abbrev rm_c_add_bitsR : Room := { frames := 7, cells := 0, slots := 0, locals := 156 }
set_option maxRecDepth 100000 in
set_option maxHeartbeats 4000000 in
theorem c_add_bitsR (l : Launch) (D : va_G) (cI cJ cZ : ClassId) (o : Nat) (rm : Nat) (n : Nat) (bs : Nat) (aP : Nat) (aH : Nat) (aC : Nat) (aT : Nat) (aB : Nat) (aZ : Nat) (aW : Nat) (aR : Nat) (oR : Nat) (oW : Nat) (P : Nat → Nat) (Hh : Nat → Nat) (Tm : Nat → Int64) (Bt : Nat → Int64) (Zb : Nat → Nat) (Rk : Nat → Int64) (aQ : Nat) (pr : Nat → Int64) (j : Nat) (t : Int64) (b : Int64) (hn3 : n ≤ rm) (hr3 : rm ≤ 300) (hj : j < n) (hHj : Hh j < 300) (hz0 : Zb j = 0) (h8 : (Hh j + 1) % 8 = 0) (hb9 : ¬ b = m_next (m_pr (Bt j) (Tm j - Tm (m_anc P (Hh j - (Hh j - 7)) j)) pr)) (hpar : ∀ x : Nat, 0 < x → x < n → P x < x) : rw_C l yT_add wT_add rm_c_add_bitsR D vwCl (gT cI cJ cZ) [.ref o, .int (nI j), .long t, .long b] [(o, .inr (2, [.int (nI rm), .int (nI n), .int (nI bs), .ref aP, .ref aH, .ref aC, .ref aT, .ref aB, .ref aZ, .ref aW, .ref aR, .ref oR, .ref oW])), (aP, .inl (cI, rm, .inl (pF P))), (aH, .inl (cI, rm, .inl (nF Hh))), (aT, .inl (cJ, rm, .inr (.inl Tm))), (aB, .inl (cJ, rm, .inr (.inl Bt))), (aZ, .inl (cZ, rm, .inl (nF Zb))), (aR, .inl (cJ, 11, .inr (.inl Rk))), (oR, .inr (0, [.ref aQ])), (aQ, .inl (cJ, 9, .inr (.inl pr)))] (fun v9 w9 => v9 = some (.int (-3)) ∧ w9 = [(o, .inr (2, [.int (nI rm), .int (nI n), .int (nI bs), .ref aP, .ref aH, .ref aC, .ref aT, .ref aB, .ref aZ, .ref aW, .ref aR, .ref oR, .ref oW])), (aP, .inl (cI, rm, .inl (pF P))), (aH, .inl (cI, rm, .inl (nF Hh))), (aT, .inl (cJ, rm, .inr (.inl Tm))), (aB, .inl (cJ, rm, .inr (.inl Bt))), (aZ, .inl (cZ, rm, .inl (nF Zb))), (aR, .inl (cJ, 11, .inr (.inl Rk))), (oR, .inr (0, [.ref aQ])), (aQ, .inl (cJ, 9, .inr (.inl (m_pr (Bt j) (Tm j - Tm (m_anc P (Hh j - (Hh j - 7)) j)) pr))))]) 0 0 := by
  refine rw_of (cc := cT_add) (maxL := 6) (ret := some .int) (by decide) rfl (Nat.le_of_ble_eq_true rfl) ?_
  intro p e s m args below meth c Q A ls hx hb hr hml hown hts hlocks hin hK hP hD hA hl hQ
  have hS : va_S A s.heap s.heap [] := va_S.rf
  have hl : lv_has ls 6 [(0, .ref o), (1, .int (nI j)), (2, .long t), (4, .long b)] := hl
  have hown : s.vm.findClass RT = some m.cls := hown
  obtain ⟨H, hHe⟩ : ∃ H : Heap, H = s.heap := ⟨_, rfl⟩
  rw [← hHe] at hP
  have hS : va_S A s.heap H [] := by rw [hHe]; exact va_S.rf
  suffices h9 : W p l e rm_c_add_bitsR s m args below meth c H [] 0 0 Q (F0 m 0 ls []) by rw [hHe] at h9; exact h9
  clear hHe
  refine lv_aload_n hx hb dT_add_0 rfl (lv_at hl 0 rfl) ?_
  refine lv_iload_n hx hb dT_add_1 rfl (lv_at hl 1 rfl) ?_
  refine ro_ki (va_runV (As := [.int (nI j)]) (rest := []) ⟨hx, hb, hml, hown, hts⟩ (c_isBlock_ok l D cI cJ cZ o rm n bs aP aH aC aT aB aZ aW aR oR oW j (by omega) (by omega)) (cwV 1 hts gT_add_T_isBlock_76 rfl rfl rfl (by decide +kernel) ⟨Nat.le_of_ble_eq_true rfl, Nat.le_of_ble_eq_true rfl⟩) (ro_preV (hP.sub [0] rfl) hK (va_recv hK hP (ci := 2) (q0 := 0) rfl rfl)) rfl rfl hl.1 rfl (lv_room (Nat.le_of_ble_eq_true rfl)) dT_add_2 ⟨Nat.le_of_ble_eq_true rfl, Nat.le_of_ble_eq_true rfl⟩) ?_
  refine lv_if_ne (tgt := 10) hx hb dT_add_5 (by decide) (fun c_5 => ?_) (fun c_5 => ?_)
  · skip
    rw [← nI_0] at c_5
    have c_5 : ¬ 1 = 0 := n_ne c_5
    refine lv_aload_n hx hb dT_add_10 rfl (lv_at hl 0 rfl) ?_
    refine va_get (D := D) (ci := 2) (v := .ref aZ) (C := RT) (T := TT) (N := 13) hx hb hts iT_add_T hown hK hP 0 rfl rfl 8 (by decide) (hts (.fieldLink RT 30 "TreeDesk" "bad" "[Z") (by decide +kernel)) (fun _ h9 => h9) rfl dT_add_11 ?_
    refine lv_iload_n hx hb dT_add_14 rfl (lv_at hl 1 rfl) ?_
    refine ar_zld (j := j) hx hb hK hP 5 2 rfl rfl dT_add_15 (by omega) (by omega) ?_
    refine tp_i (y := nI (Zb j)) rfl ?_
    refine lv_if_eq (tgt := 22) hx hb dT_add_16 (by decide) (fun c_16 => ?_) (fun c_16 => ?_)
    · skip
      rw [← nI_0] at c_16
      have c_16 : (Zb j) = 0 := n_eq c_16 (by omega) (by omega)
      refine lv_lload hx hb dT_add_22 (lv_at hl 3 rfl) ?_
      refine lv_aload_n hx hb dT_add_24 rfl (lv_at hl 0 rfl) ?_
      refine lv_iload_n hx hb dT_add_25 rfl (lv_at hl 1 rfl) ?_
      refine rw_k (wc := [(o, .inr (2, [.int (nI rm), .int (nI n), .int (nI bs), .ref aP, .ref aH, .ref aC, .ref aT, .ref aB, .ref aZ, .ref aW, .ref aR, .ref oR, .ref oW])), (aP, .inl (cI, rm, .inl (pF P))), (aH, .inl (cI, rm, .inl (nF Hh))), (aT, .inl (cJ, rm, .inr (.inl Tm))), (aB, .inl (cJ, rm, .inr (.inl Bt))), (oR, .inr (0, [.ref aQ])), (aQ, .inl (cJ, 9, .inr (.inl pr)))]) (wr := [(aZ, .inl (cZ, rm, .inl (nF Zb))), (aR, .inl (cJ, 11, .inr (.inl Rk)))]) (va_runV (As := [.int (nI j)]) (rest := [.long b]) ⟨hx, hb, hml, hown, hts⟩ (c_must_ret l D cI cJ cZ o rm n bs aP aH aC aT aB aZ aW aR oR oW P Hh Tm Bt aQ pr j (by omega) (by omega) (by omega) (by omega) h8 hpar H.size) (cwV 1 hts gT_add_T_must_80 rfl rfl rfl (by decide +kernel) ⟨Nat.le_of_ble_eq_true rfl, Nat.le_of_ble_eq_true rfl⟩) (rw_preV (hP.sub [0, 1, 2, 3, 4, 7, 8] rfl) hK (hD.sub [0, 1, 2, 3, 4, 7, 8] (by decide) rfl) (va_recv hK hP (ci := 2) (q0 := 0) rfl rfl)) rfl rfl hl.1 rfl (lv_room (Nat.le_of_ble_eq_true rfl)) dT_add_26 ⟨Nat.le_of_ble_eq_true rfl, Nat.le_of_ble_eq_true rfl⟩) hP hD hS hA [0, 1, 2, 3, 4, 7, 8] [5, 6] rfl rfl (by decide) (by decide) (fun v9 w9 H locs hp9 hP hD hS => ?_)
      obtain ⟨rfl, rfl⟩ := hp9
      have hP : va_P D vwCl [(aZ, .inl (cZ, rm, .inl (nF Zb))), (aR, .inl (cJ, 11, .inr (.inl Rk))), (o, .inr (2, [.int (nI rm), .int (nI n), .int (nI bs), .ref aP, .ref aH, .ref aC, .ref aT, .ref aB, .ref aZ, .ref aW, .ref aR, .ref oR, .ref oW])), (aP, .inl (cI, rm, .inl (pF P))), (aH, .inl (cI, rm, .inl (nF Hh))), (aT, .inl (cJ, rm, .inr (.inl Tm))), (aB, .inl (cJ, rm, .inr (.inl Bt))), (oR, .inr (0, [.ref aQ])), (aQ, .inl (cJ, 9, .inr (.inl (m_pr (Bt j) (Tm j - Tm (m_anc P (Hh j - (Hh j - 7)) j)) pr))))] H := hP
      have hD : va_D A [(aZ, .inl (cZ, rm, .inl (nF Zb))), (aR, .inl (cJ, 11, .inr (.inl Rk))), (o, .inr (2, [.int (nI rm), .int (nI n), .int (nI bs), .ref aP, .ref aH, .ref aC, .ref aT, .ref aB, .ref aZ, .ref aW, .ref aR, .ref oR, .ref oW])), (aP, .inl (cI, rm, .inl (pF P))), (aH, .inl (cI, rm, .inl (nF Hh))), (aT, .inl (cJ, rm, .inr (.inl Tm))), (aB, .inl (cJ, rm, .inr (.inl Bt))), (oR, .inr (0, [.ref aQ])), (aQ, .inl (cJ, 9, .inr (.inl (m_pr (Bt j) (Tm j - Tm (m_anc P (Hh j - (Hh j - 7)) j)) pr))))] := hD
      refine W.eq (g2 := F0 m 29 ls [.long (m_next (m_pr (Bt j) (Tm j - Tm (m_anc P (Hh j - (Hh j - 7)) j)) pr)), .long b]) rfl ?_
      refine lc_eq (tgt := 36) hx hb dT_add_29 dT_add_30 (by decide) (fun c_30 => ?_) (fun c_30 => ?_)
      · skip
        exact absurd c_30 hb9
      · skip
        refine lv_bipush (v := (-3)) hx hb dT_add_33 (by decide) ?_
        exact rw_iret (w := [(o, .inr (2, [.int (nI rm), .int (nI n), .int (nI bs), .ref aP, .ref aH, .ref aC, .ref aT, .ref aB, .ref aZ, .ref aW, .ref aR, .ref oR, .ref oW])), (aP, .inl (cI, rm, .inl (pF P))), (aH, .inl (cI, rm, .inl (nF Hh))), (aT, .inl (cJ, rm, .inr (.inl Tm))), (aB, .inl (cJ, rm, .inr (.inl Bt))), (aZ, .inl (cZ, rm, .inl (nF Zb))), (aR, .inl (cJ, 11, .inr (.inl Rk))), (oR, .inr (0, [.ref aQ])), (aQ, .inl (cJ, 9, .inr (.inl (m_pr (Bt j) (Tm j - Tm (m_anc P (Hh j - (Hh j - 7)) j)) pr))))]) hQ hx hb hr hlocks dT_add_35 (hP.sub [2, 3, 4, 5, 6, 0, 1, 7, 8] rfl) (hD.sub [2, 3, 4, 5, 6, 0, 1, 7, 8] (by decide) rfl) hS ⟨rfl, rfl⟩
    · skip
      rw [← nI_0] at c_16
      have c_16 : ¬ (Zb j) = 0 := n_ne c_16
      omega
  · skip
    rw [← nI_0] at c_5
    have c_5 : 1 = 0 := n_eq c_5 (by omega) (by omega)
    omega

abbrev rm_c_add_timeR : Room := { frames := 7, cells := 0, slots := 0, locals := 156 }
set_option maxRecDepth 100000 in
set_option maxHeartbeats 4000000 in
theorem c_add_timeR (l : Launch) (D : va_G) (cI cJ cZ : ClassId) (o : Nat) (rm : Nat) (n : Nat) (bs : Nat) (aP : Nat) (aH : Nat) (aC : Nat) (aT : Nat) (aB : Nat) (aZ : Nat) (aW : Nat) (aR : Nat) (oR : Nat) (oW : Nat) (P : Nat → Nat) (Hh : Nat → Nat) (Tm : Nat → Int64) (Bt : Nat → Int64) (Zb : Nat → Nat) (Rk : Nat → Int64) (aQ : Nat) (pr : Nat → Int64) (j : Nat) (t : Int64) (b : Int64) (hn3 : n ≤ rm) (hr3 : rm ≤ 300) (hj : j < n) (hHj : Hh j < 300) (hz0 : Zb j = 0) (h8 : (Hh j + 1) % 8 = 0) (hb9 : b = m_next (m_pr (Bt j) (Tm j - Tm (m_anc P (Hh j - (Hh j - 7)) j)) pr)) (ht9 : ¬ ((m_med P Tm 11 0 (j + 1) Rk).1 ((m_med P Tm 11 0 (j + 1) Rk).2 / 2) < t ∧ t ≤ 4294967295)) (hpar : ∀ x : Nat, 0 < x → x < n → P x < x) : rw_C l yT_add wT_add rm_c_add_timeR D vwCl (gT cI cJ cZ) [.ref o, .int (nI j), .long t, .long b] [(o, .inr (2, [.int (nI rm), .int (nI n), .int (nI bs), .ref aP, .ref aH, .ref aC, .ref aT, .ref aB, .ref aZ, .ref aW, .ref aR, .ref oR, .ref oW])), (aP, .inl (cI, rm, .inl (pF P))), (aH, .inl (cI, rm, .inl (nF Hh))), (aT, .inl (cJ, rm, .inr (.inl Tm))), (aB, .inl (cJ, rm, .inr (.inl Bt))), (aZ, .inl (cZ, rm, .inl (nF Zb))), (aR, .inl (cJ, 11, .inr (.inl Rk))), (oR, .inr (0, [.ref aQ])), (aQ, .inl (cJ, 9, .inr (.inl pr)))] (fun v9 w9 => v9 = some (.int (-4)) ∧ w9 = [(o, .inr (2, [.int (nI rm), .int (nI n), .int (nI bs), .ref aP, .ref aH, .ref aC, .ref aT, .ref aB, .ref aZ, .ref aW, .ref aR, .ref oR, .ref oW])), (aP, .inl (cI, rm, .inl (pF P))), (aH, .inl (cI, rm, .inl (nF Hh))), (aT, .inl (cJ, rm, .inr (.inl Tm))), (aB, .inl (cJ, rm, .inr (.inl Bt))), (aZ, .inl (cZ, rm, .inl (nF Zb))), (aR, .inl (cJ, 11, .inr (.inl ((m_med P Tm 11 0 (j + 1) Rk).1)))), (oR, .inr (0, [.ref aQ])), (aQ, .inl (cJ, 9, .inr (.inl (m_pr (Bt j) (Tm j - Tm (m_anc P (Hh j - (Hh j - 7)) j)) pr))))]) 0 0 := by
  refine rw_of (cc := cT_add) (maxL := 6) (ret := some .int) (by decide) rfl (Nat.le_of_ble_eq_true rfl) ?_
  intro p e s m args below meth c Q A ls hx hb hr hml hown hts hlocks hin hK hP hD hA hl hQ
  have hS : va_S A s.heap s.heap [] := va_S.rf
  have hl : lv_has ls 6 [(0, .ref o), (1, .int (nI j)), (2, .long t), (4, .long b)] := hl
  have hown : s.vm.findClass RT = some m.cls := hown
  obtain ⟨H, hHe⟩ : ∃ H : Heap, H = s.heap := ⟨_, rfl⟩
  rw [← hHe] at hP
  have hS : va_S A s.heap H [] := by rw [hHe]; exact va_S.rf
  suffices h9 : W p l e rm_c_add_timeR s m args below meth c H [] 0 0 Q (F0 m 0 ls []) by rw [hHe] at h9; exact h9
  clear hHe
  refine lv_aload_n hx hb dT_add_0 rfl (lv_at hl 0 rfl) ?_
  refine lv_iload_n hx hb dT_add_1 rfl (lv_at hl 1 rfl) ?_
  refine ro_ki (va_runV (As := [.int (nI j)]) (rest := []) ⟨hx, hb, hml, hown, hts⟩ (c_isBlock_ok l D cI cJ cZ o rm n bs aP aH aC aT aB aZ aW aR oR oW j (by omega) (by omega)) (cwV 1 hts gT_add_T_isBlock_76 rfl rfl rfl (by decide +kernel) ⟨Nat.le_of_ble_eq_true rfl, Nat.le_of_ble_eq_true rfl⟩) (ro_preV (hP.sub [0] rfl) hK (va_recv hK hP (ci := 2) (q0 := 0) rfl rfl)) rfl rfl hl.1 rfl (lv_room (Nat.le_of_ble_eq_true rfl)) dT_add_2 ⟨Nat.le_of_ble_eq_true rfl, Nat.le_of_ble_eq_true rfl⟩) ?_
  refine lv_if_ne (tgt := 10) hx hb dT_add_5 (by decide) (fun c_5 => ?_) (fun c_5 => ?_)
  · skip
    rw [← nI_0] at c_5
    have c_5 : ¬ 1 = 0 := n_ne c_5
    refine lv_aload_n hx hb dT_add_10 rfl (lv_at hl 0 rfl) ?_
    refine va_get (D := D) (ci := 2) (v := .ref aZ) (C := RT) (T := TT) (N := 13) hx hb hts iT_add_T hown hK hP 0 rfl rfl 8 (by decide) (hts (.fieldLink RT 30 "TreeDesk" "bad" "[Z") (by decide +kernel)) (fun _ h9 => h9) rfl dT_add_11 ?_
    refine lv_iload_n hx hb dT_add_14 rfl (lv_at hl 1 rfl) ?_
    refine ar_zld (j := j) hx hb hK hP 5 2 rfl rfl dT_add_15 (by omega) (by omega) ?_
    refine tp_i (y := nI (Zb j)) rfl ?_
    refine lv_if_eq (tgt := 22) hx hb dT_add_16 (by decide) (fun c_16 => ?_) (fun c_16 => ?_)
    · skip
      rw [← nI_0] at c_16
      have c_16 : (Zb j) = 0 := n_eq c_16 (by omega) (by omega)
      refine lv_lload hx hb dT_add_22 (lv_at hl 3 rfl) ?_
      refine lv_aload_n hx hb dT_add_24 rfl (lv_at hl 0 rfl) ?_
      refine lv_iload_n hx hb dT_add_25 rfl (lv_at hl 1 rfl) ?_
      refine rw_k (wc := [(o, .inr (2, [.int (nI rm), .int (nI n), .int (nI bs), .ref aP, .ref aH, .ref aC, .ref aT, .ref aB, .ref aZ, .ref aW, .ref aR, .ref oR, .ref oW])), (aP, .inl (cI, rm, .inl (pF P))), (aH, .inl (cI, rm, .inl (nF Hh))), (aT, .inl (cJ, rm, .inr (.inl Tm))), (aB, .inl (cJ, rm, .inr (.inl Bt))), (oR, .inr (0, [.ref aQ])), (aQ, .inl (cJ, 9, .inr (.inl pr)))]) (wr := [(aZ, .inl (cZ, rm, .inl (nF Zb))), (aR, .inl (cJ, 11, .inr (.inl Rk)))]) (va_runV (As := [.int (nI j)]) (rest := [.long b]) ⟨hx, hb, hml, hown, hts⟩ (c_must_ret l D cI cJ cZ o rm n bs aP aH aC aT aB aZ aW aR oR oW P Hh Tm Bt aQ pr j (by omega) (by omega) (by omega) (by omega) h8 hpar H.size) (cwV 1 hts gT_add_T_must_80 rfl rfl rfl (by decide +kernel) ⟨Nat.le_of_ble_eq_true rfl, Nat.le_of_ble_eq_true rfl⟩) (rw_preV (hP.sub [0, 1, 2, 3, 4, 7, 8] rfl) hK (hD.sub [0, 1, 2, 3, 4, 7, 8] (by decide) rfl) (va_recv hK hP (ci := 2) (q0 := 0) rfl rfl)) rfl rfl hl.1 rfl (lv_room (Nat.le_of_ble_eq_true rfl)) dT_add_26 ⟨Nat.le_of_ble_eq_true rfl, Nat.le_of_ble_eq_true rfl⟩) hP hD hS hA [0, 1, 2, 3, 4, 7, 8] [5, 6] rfl rfl (by decide) (by decide) (fun v9 w9 H locs hp9 hP hD hS => ?_)
      obtain ⟨rfl, rfl⟩ := hp9
      have hP : va_P D vwCl [(aZ, .inl (cZ, rm, .inl (nF Zb))), (aR, .inl (cJ, 11, .inr (.inl Rk))), (o, .inr (2, [.int (nI rm), .int (nI n), .int (nI bs), .ref aP, .ref aH, .ref aC, .ref aT, .ref aB, .ref aZ, .ref aW, .ref aR, .ref oR, .ref oW])), (aP, .inl (cI, rm, .inl (pF P))), (aH, .inl (cI, rm, .inl (nF Hh))), (aT, .inl (cJ, rm, .inr (.inl Tm))), (aB, .inl (cJ, rm, .inr (.inl Bt))), (oR, .inr (0, [.ref aQ])), (aQ, .inl (cJ, 9, .inr (.inl (m_pr (Bt j) (Tm j - Tm (m_anc P (Hh j - (Hh j - 7)) j)) pr))))] H := hP
      have hD : va_D A [(aZ, .inl (cZ, rm, .inl (nF Zb))), (aR, .inl (cJ, 11, .inr (.inl Rk))), (o, .inr (2, [.int (nI rm), .int (nI n), .int (nI bs), .ref aP, .ref aH, .ref aC, .ref aT, .ref aB, .ref aZ, .ref aW, .ref aR, .ref oR, .ref oW])), (aP, .inl (cI, rm, .inl (pF P))), (aH, .inl (cI, rm, .inl (nF Hh))), (aT, .inl (cJ, rm, .inr (.inl Tm))), (aB, .inl (cJ, rm, .inr (.inl Bt))), (oR, .inr (0, [.ref aQ])), (aQ, .inl (cJ, 9, .inr (.inl (m_pr (Bt j) (Tm j - Tm (m_anc P (Hh j - (Hh j - 7)) j)) pr))))] := hD
      refine W.eq (g2 := F0 m 29 ls [.long (m_next (m_pr (Bt j) (Tm j - Tm (m_anc P (Hh j - (Hh j - 7)) j)) pr)), .long b]) rfl ?_
      refine lc_eq (tgt := 36) hx hb dT_add_29 dT_add_30 (by decide) (fun c_30 => ?_) (fun c_30 => ?_)
      · skip
        refine lv_lload_n hx hb dT_add_36 rfl (lv_at hl 2 rfl) ?_
        refine lv_aload_n hx hb dT_add_37 rfl (lv_at hl 0 rfl) ?_
        refine lv_iload_n hx hb dT_add_38 rfl (lv_at hl 1 rfl) ?_
        refine rw_k (wc := [(o, .inr (2, [.int (nI rm), .int (nI n), .int (nI bs), .ref aP, .ref aH, .ref aC, .ref aT, .ref aB, .ref aZ, .ref aW, .ref aR, .ref oR, .ref oW])), (aP, .inl (cI, rm, .inl (pF P))), (aT, .inl (cJ, rm, .inr (.inl Tm))), (aR, .inl (cJ, 11, .inr (.inl Rk)))]) (wr := [(aZ, .inl (cZ, rm, .inl (nF Zb))), (aH, .inl (cI, rm, .inl (nF Hh))), (aB, .inl (cJ, rm, .inr (.inl Bt))), (oR, .inr (0, [.ref aQ])), (aQ, .inl (cJ, 9, .inr (.inl (m_pr (Bt j) (Tm j - Tm (m_anc P (Hh j - (Hh j - 7)) j)) pr))))]) (va_runV (As := [.int (nI j)]) (rest := [.long t]) ⟨hx, hb, hml, hown, hts⟩ (c_median_ok l D cI cJ cZ o rm n bs aP aH aC aT aB aZ aW aR oR oW P Tm Rk j (by omega) (by omega) (by omega) hpar H.size) (cwV 1 hts gT_add_T_median_84 rfl rfl rfl (by decide +kernel) ⟨Nat.le_of_ble_eq_true rfl, Nat.le_of_ble_eq_true rfl⟩) (rw_preV (hP.sub [2, 3, 5, 1] rfl) hK (hD.sub [2, 3, 5, 1] (by decide) rfl) (va_recv hK hP (ci := 2) (q0 := 2) rfl rfl)) rfl rfl hl.1 rfl (lv_room (Nat.le_of_ble_eq_true rfl)) dT_add_39 ⟨Nat.le_of_ble_eq_true rfl, Nat.le_of_ble_eq_true rfl⟩) hP hD hS hA [2, 3, 5, 1] [0, 4, 6, 7, 8] rfl rfl (by decide) (by decide) (fun v9 w9 H locs hp9 hP hD hS => ?_)
        obtain ⟨rfl, rfl⟩ := hp9
        have hP : va_P D vwCl [(aZ, .inl (cZ, rm, .inl (nF Zb))), (aH, .inl (cI, rm, .inl (nF Hh))), (aB, .inl (cJ, rm, .inr (.inl Bt))), (oR, .inr (0, [.ref aQ])), (aQ, .inl (cJ, 9, .inr (.inl (m_pr (Bt j) (Tm j - Tm (m_anc P (Hh j - (Hh j - 7)) j)) pr)))), (o, .inr (2, [.int (nI rm), .int (nI n), .int (nI bs), .ref aP, .ref aH, .ref aC, .ref aT, .ref aB, .ref aZ, .ref aW, .ref aR, .ref oR, .ref oW])), (aP, .inl (cI, rm, .inl (pF P))), (aT, .inl (cJ, rm, .inr (.inl Tm))), (aR, .inl (cJ, 11, .inr (.inl ((m_med P Tm 11 0 (j + 1) Rk).1))))] H := hP
        have hD : va_D A [(aZ, .inl (cZ, rm, .inl (nF Zb))), (aH, .inl (cI, rm, .inl (nF Hh))), (aB, .inl (cJ, rm, .inr (.inl Bt))), (oR, .inr (0, [.ref aQ])), (aQ, .inl (cJ, 9, .inr (.inl (m_pr (Bt j) (Tm j - Tm (m_anc P (Hh j - (Hh j - 7)) j)) pr)))), (o, .inr (2, [.int (nI rm), .int (nI n), .int (nI bs), .ref aP, .ref aH, .ref aC, .ref aT, .ref aB, .ref aZ, .ref aW, .ref aR, .ref oR, .ref oW])), (aP, .inl (cI, rm, .inl (pF P))), (aT, .inl (cJ, rm, .inr (.inl Tm))), (aR, .inl (cJ, 11, .inr (.inl ((m_med P Tm 11 0 (j + 1) Rk).1))))] := hD
        refine W.eq (g2 := F0 m 42 ls [.long ((m_med P Tm 11 0 (j + 1) Rk).1 ((m_med P Tm 11 0 (j + 1) Rk).2 / 2)), .long t]) rfl ?_
        refine lc_le (tgt := 54) hx hb dT_add_42 dT_add_43 (by decide) (fun c_43 => ?_) (fun c_43 => ?_)
        · skip
          refine lv_bipush (v := (-4)) hx hb dT_add_54 (by decide) ?_
          exact rw_iret (w := [(o, .inr (2, [.int (nI rm), .int (nI n), .int (nI bs), .ref aP, .ref aH, .ref aC, .ref aT, .ref aB, .ref aZ, .ref aW, .ref aR, .ref oR, .ref oW])), (aP, .inl (cI, rm, .inl (pF P))), (aH, .inl (cI, rm, .inl (nF Hh))), (aT, .inl (cJ, rm, .inr (.inl Tm))), (aB, .inl (cJ, rm, .inr (.inl Bt))), (aZ, .inl (cZ, rm, .inl (nF Zb))), (aR, .inl (cJ, 11, .inr (.inl ((m_med P Tm 11 0 (j + 1) Rk).1)))), (oR, .inr (0, [.ref aQ])), (aQ, .inl (cJ, 9, .inr (.inl (m_pr (Bt j) (Tm j - Tm (m_anc P (Hh j - (Hh j - 7)) j)) pr))))]) hQ hx hb hr hlocks dT_add_56 (hP.sub [5, 6, 1, 7, 2, 0, 8, 3, 4] rfl) (hD.sub [5, 6, 1, 7, 2, 0, 8, 3, 4] (by decide) rfl) hS ⟨rfl, rfl⟩
        · skip
          refine lv_lload_n hx hb dT_add_46 rfl (lv_at hl 2 rfl) ?_
          refine lv_ldc2 (v := 4294967295) hx hb hown (hts (.constantLong RT 56 4294967295) (by decide +kernel)) dT_add_47 ?_
          refine lc_le (tgt := 57) hx hb dT_add_50 dT_add_51 (by decide) (fun c_51 => ?_) (fun c_51 => ?_)
          · skip
            exact absurd ⟨Int64.not_le.mp c_43, c_51⟩ ht9
          · skip
            refine lv_bipush (v := (-4)) hx hb dT_add_54 (by decide) ?_
            exact rw_iret (w := [(o, .inr (2, [.int (nI rm), .int (nI n), .int (nI bs), .ref aP, .ref aH, .ref aC, .ref aT, .ref aB, .ref aZ, .ref aW, .ref aR, .ref oR, .ref oW])), (aP, .inl (cI, rm, .inl (pF P))), (aH, .inl (cI, rm, .inl (nF Hh))), (aT, .inl (cJ, rm, .inr (.inl Tm))), (aB, .inl (cJ, rm, .inr (.inl Bt))), (aZ, .inl (cZ, rm, .inl (nF Zb))), (aR, .inl (cJ, 11, .inr (.inl ((m_med P Tm 11 0 (j + 1) Rk).1)))), (oR, .inr (0, [.ref aQ])), (aQ, .inl (cJ, 9, .inr (.inl (m_pr (Bt j) (Tm j - Tm (m_anc P (Hh j - (Hh j - 7)) j)) pr))))]) hQ hx hb hr hlocks dT_add_56 (hP.sub [5, 6, 1, 7, 2, 0, 8, 3, 4] rfl) (hD.sub [5, 6, 1, 7, 2, 0, 8, 3, 4] (by decide) rfl) hS ⟨rfl, rfl⟩
      · skip
        exact absurd hb9 c_30
    · skip
      rw [← nI_0] at c_16
      have c_16 : ¬ (Zb j) = 0 := n_ne c_16
      omega
  · skip
    rw [← nI_0] at c_5
    have c_5 : 1 = 0 := n_eq c_5 (by omega) (by omega)
    omega

abbrev rm_c_add_fullR : Room := { frames := 7, cells := 0, slots := 0, locals := 156 }
set_option maxRecDepth 100000 in
set_option maxHeartbeats 4000000 in
theorem c_add_fullR (l : Launch) (D : va_G) (cI cJ cZ : ClassId) (o : Nat) (rm : Nat) (n : Nat) (bs : Nat) (aP : Nat) (aH : Nat) (aC : Nat) (aT : Nat) (aB : Nat) (aZ : Nat) (aW : Nat) (aR : Nat) (oR : Nat) (oW : Nat) (P : Nat → Nat) (Hh : Nat → Nat) (Tm : Nat → Int64) (Bt : Nat → Int64) (Zb : Nat → Nat) (Rk : Nat → Int64) (aQ : Nat) (pr : Nat → Int64) (j : Nat) (t : Int64) (b : Int64) (hn3 : n ≤ rm) (hr3 : rm ≤ 300) (hj : j < n) (hHj : Hh j < 300) (hz0 : Zb j = 0) (h8 : (Hh j + 1) % 8 = 0) (hb9 : b = m_next (m_pr (Bt j) (Tm j - Tm (m_anc P (Hh j - (Hh j - 7)) j)) pr)) (ht9 : (m_med P Tm 11 0 (j + 1) Rk).1 ((m_med P Tm 11 0 (j + 1) Rk).2 / 2) < t) (ht8 : t ≤ 4294967295) (hfl : n = rm) (hpar : ∀ x : Nat, 0 < x → x < n → P x < x) : rw_C l yT_add wT_add rm_c_add_fullR D vwCl (gT cI cJ cZ) [.ref o, .int (nI j), .long t, .long b] [(o, .inr (2, [.int (nI rm), .int (nI n), .int (nI bs), .ref aP, .ref aH, .ref aC, .ref aT, .ref aB, .ref aZ, .ref aW, .ref aR, .ref oR, .ref oW])), (aP, .inl (cI, rm, .inl (pF P))), (aH, .inl (cI, rm, .inl (nF Hh))), (aT, .inl (cJ, rm, .inr (.inl Tm))), (aB, .inl (cJ, rm, .inr (.inl Bt))), (aZ, .inl (cZ, rm, .inl (nF Zb))), (aR, .inl (cJ, 11, .inr (.inl Rk))), (oR, .inr (0, [.ref aQ])), (aQ, .inl (cJ, 9, .inr (.inl pr)))] (fun v9 w9 => v9 = some (.int (-5)) ∧ w9 = [(o, .inr (2, [.int (nI rm), .int (nI n), .int (nI bs), .ref aP, .ref aH, .ref aC, .ref aT, .ref aB, .ref aZ, .ref aW, .ref aR, .ref oR, .ref oW])), (aP, .inl (cI, rm, .inl (pF P))), (aH, .inl (cI, rm, .inl (nF Hh))), (aT, .inl (cJ, rm, .inr (.inl Tm))), (aB, .inl (cJ, rm, .inr (.inl Bt))), (aZ, .inl (cZ, rm, .inl (nF Zb))), (aR, .inl (cJ, 11, .inr (.inl ((m_med P Tm 11 0 (j + 1) Rk).1)))), (oR, .inr (0, [.ref aQ])), (aQ, .inl (cJ, 9, .inr (.inl (m_pr (Bt j) (Tm j - Tm (m_anc P (Hh j - (Hh j - 7)) j)) pr))))]) 0 0 := by
  refine rw_of (cc := cT_add) (maxL := 6) (ret := some .int) (by decide) rfl (Nat.le_of_ble_eq_true rfl) ?_
  intro p e s m args below meth c Q A ls hx hb hr hml hown hts hlocks hin hK hP hD hA hl hQ
  have hS : va_S A s.heap s.heap [] := va_S.rf
  have hl : lv_has ls 6 [(0, .ref o), (1, .int (nI j)), (2, .long t), (4, .long b)] := hl
  have hown : s.vm.findClass RT = some m.cls := hown
  obtain ⟨H, hHe⟩ : ∃ H : Heap, H = s.heap := ⟨_, rfl⟩
  rw [← hHe] at hP
  have hS : va_S A s.heap H [] := by rw [hHe]; exact va_S.rf
  suffices h9 : W p l e rm_c_add_fullR s m args below meth c H [] 0 0 Q (F0 m 0 ls []) by rw [hHe] at h9; exact h9
  clear hHe
  refine lv_aload_n hx hb dT_add_0 rfl (lv_at hl 0 rfl) ?_
  refine lv_iload_n hx hb dT_add_1 rfl (lv_at hl 1 rfl) ?_
  refine ro_ki (va_runV (As := [.int (nI j)]) (rest := []) ⟨hx, hb, hml, hown, hts⟩ (c_isBlock_ok l D cI cJ cZ o rm n bs aP aH aC aT aB aZ aW aR oR oW j (by omega) (by omega)) (cwV 1 hts gT_add_T_isBlock_76 rfl rfl rfl (by decide +kernel) ⟨Nat.le_of_ble_eq_true rfl, Nat.le_of_ble_eq_true rfl⟩) (ro_preV (hP.sub [0] rfl) hK (va_recv hK hP (ci := 2) (q0 := 0) rfl rfl)) rfl rfl hl.1 rfl (lv_room (Nat.le_of_ble_eq_true rfl)) dT_add_2 ⟨Nat.le_of_ble_eq_true rfl, Nat.le_of_ble_eq_true rfl⟩) ?_
  refine lv_if_ne (tgt := 10) hx hb dT_add_5 (by decide) (fun c_5 => ?_) (fun c_5 => ?_)
  · skip
    rw [← nI_0] at c_5
    have c_5 : ¬ 1 = 0 := n_ne c_5
    refine lv_aload_n hx hb dT_add_10 rfl (lv_at hl 0 rfl) ?_
    refine va_get (D := D) (ci := 2) (v := .ref aZ) (C := RT) (T := TT) (N := 13) hx hb hts iT_add_T hown hK hP 0 rfl rfl 8 (by decide) (hts (.fieldLink RT 30 "TreeDesk" "bad" "[Z") (by decide +kernel)) (fun _ h9 => h9) rfl dT_add_11 ?_
    refine lv_iload_n hx hb dT_add_14 rfl (lv_at hl 1 rfl) ?_
    refine ar_zld (j := j) hx hb hK hP 5 2 rfl rfl dT_add_15 (by omega) (by omega) ?_
    refine tp_i (y := nI (Zb j)) rfl ?_
    refine lv_if_eq (tgt := 22) hx hb dT_add_16 (by decide) (fun c_16 => ?_) (fun c_16 => ?_)
    · skip
      rw [← nI_0] at c_16
      have c_16 : (Zb j) = 0 := n_eq c_16 (by omega) (by omega)
      refine lv_lload hx hb dT_add_22 (lv_at hl 3 rfl) ?_
      refine lv_aload_n hx hb dT_add_24 rfl (lv_at hl 0 rfl) ?_
      refine lv_iload_n hx hb dT_add_25 rfl (lv_at hl 1 rfl) ?_
      refine rw_k (wc := [(o, .inr (2, [.int (nI rm), .int (nI n), .int (nI bs), .ref aP, .ref aH, .ref aC, .ref aT, .ref aB, .ref aZ, .ref aW, .ref aR, .ref oR, .ref oW])), (aP, .inl (cI, rm, .inl (pF P))), (aH, .inl (cI, rm, .inl (nF Hh))), (aT, .inl (cJ, rm, .inr (.inl Tm))), (aB, .inl (cJ, rm, .inr (.inl Bt))), (oR, .inr (0, [.ref aQ])), (aQ, .inl (cJ, 9, .inr (.inl pr)))]) (wr := [(aZ, .inl (cZ, rm, .inl (nF Zb))), (aR, .inl (cJ, 11, .inr (.inl Rk)))]) (va_runV (As := [.int (nI j)]) (rest := [.long b]) ⟨hx, hb, hml, hown, hts⟩ (c_must_ret l D cI cJ cZ o rm n bs aP aH aC aT aB aZ aW aR oR oW P Hh Tm Bt aQ pr j (by omega) (by omega) (by omega) (by omega) h8 hpar H.size) (cwV 1 hts gT_add_T_must_80 rfl rfl rfl (by decide +kernel) ⟨Nat.le_of_ble_eq_true rfl, Nat.le_of_ble_eq_true rfl⟩) (rw_preV (hP.sub [0, 1, 2, 3, 4, 7, 8] rfl) hK (hD.sub [0, 1, 2, 3, 4, 7, 8] (by decide) rfl) (va_recv hK hP (ci := 2) (q0 := 0) rfl rfl)) rfl rfl hl.1 rfl (lv_room (Nat.le_of_ble_eq_true rfl)) dT_add_26 ⟨Nat.le_of_ble_eq_true rfl, Nat.le_of_ble_eq_true rfl⟩) hP hD hS hA [0, 1, 2, 3, 4, 7, 8] [5, 6] rfl rfl (by decide) (by decide) (fun v9 w9 H locs hp9 hP hD hS => ?_)
      obtain ⟨rfl, rfl⟩ := hp9
      have hP : va_P D vwCl [(aZ, .inl (cZ, rm, .inl (nF Zb))), (aR, .inl (cJ, 11, .inr (.inl Rk))), (o, .inr (2, [.int (nI rm), .int (nI n), .int (nI bs), .ref aP, .ref aH, .ref aC, .ref aT, .ref aB, .ref aZ, .ref aW, .ref aR, .ref oR, .ref oW])), (aP, .inl (cI, rm, .inl (pF P))), (aH, .inl (cI, rm, .inl (nF Hh))), (aT, .inl (cJ, rm, .inr (.inl Tm))), (aB, .inl (cJ, rm, .inr (.inl Bt))), (oR, .inr (0, [.ref aQ])), (aQ, .inl (cJ, 9, .inr (.inl (m_pr (Bt j) (Tm j - Tm (m_anc P (Hh j - (Hh j - 7)) j)) pr))))] H := hP
      have hD : va_D A [(aZ, .inl (cZ, rm, .inl (nF Zb))), (aR, .inl (cJ, 11, .inr (.inl Rk))), (o, .inr (2, [.int (nI rm), .int (nI n), .int (nI bs), .ref aP, .ref aH, .ref aC, .ref aT, .ref aB, .ref aZ, .ref aW, .ref aR, .ref oR, .ref oW])), (aP, .inl (cI, rm, .inl (pF P))), (aH, .inl (cI, rm, .inl (nF Hh))), (aT, .inl (cJ, rm, .inr (.inl Tm))), (aB, .inl (cJ, rm, .inr (.inl Bt))), (oR, .inr (0, [.ref aQ])), (aQ, .inl (cJ, 9, .inr (.inl (m_pr (Bt j) (Tm j - Tm (m_anc P (Hh j - (Hh j - 7)) j)) pr))))] := hD
      refine W.eq (g2 := F0 m 29 ls [.long (m_next (m_pr (Bt j) (Tm j - Tm (m_anc P (Hh j - (Hh j - 7)) j)) pr)), .long b]) rfl ?_
      refine lc_eq (tgt := 36) hx hb dT_add_29 dT_add_30 (by decide) (fun c_30 => ?_) (fun c_30 => ?_)
      · skip
        refine lv_lload_n hx hb dT_add_36 rfl (lv_at hl 2 rfl) ?_
        refine lv_aload_n hx hb dT_add_37 rfl (lv_at hl 0 rfl) ?_
        refine lv_iload_n hx hb dT_add_38 rfl (lv_at hl 1 rfl) ?_
        refine rw_k (wc := [(o, .inr (2, [.int (nI rm), .int (nI n), .int (nI bs), .ref aP, .ref aH, .ref aC, .ref aT, .ref aB, .ref aZ, .ref aW, .ref aR, .ref oR, .ref oW])), (aP, .inl (cI, rm, .inl (pF P))), (aT, .inl (cJ, rm, .inr (.inl Tm))), (aR, .inl (cJ, 11, .inr (.inl Rk)))]) (wr := [(aZ, .inl (cZ, rm, .inl (nF Zb))), (aH, .inl (cI, rm, .inl (nF Hh))), (aB, .inl (cJ, rm, .inr (.inl Bt))), (oR, .inr (0, [.ref aQ])), (aQ, .inl (cJ, 9, .inr (.inl (m_pr (Bt j) (Tm j - Tm (m_anc P (Hh j - (Hh j - 7)) j)) pr))))]) (va_runV (As := [.int (nI j)]) (rest := [.long t]) ⟨hx, hb, hml, hown, hts⟩ (c_median_ok l D cI cJ cZ o rm n bs aP aH aC aT aB aZ aW aR oR oW P Tm Rk j (by omega) (by omega) (by omega) hpar H.size) (cwV 1 hts gT_add_T_median_84 rfl rfl rfl (by decide +kernel) ⟨Nat.le_of_ble_eq_true rfl, Nat.le_of_ble_eq_true rfl⟩) (rw_preV (hP.sub [2, 3, 5, 1] rfl) hK (hD.sub [2, 3, 5, 1] (by decide) rfl) (va_recv hK hP (ci := 2) (q0 := 2) rfl rfl)) rfl rfl hl.1 rfl (lv_room (Nat.le_of_ble_eq_true rfl)) dT_add_39 ⟨Nat.le_of_ble_eq_true rfl, Nat.le_of_ble_eq_true rfl⟩) hP hD hS hA [2, 3, 5, 1] [0, 4, 6, 7, 8] rfl rfl (by decide) (by decide) (fun v9 w9 H locs hp9 hP hD hS => ?_)
        obtain ⟨rfl, rfl⟩ := hp9
        have hP : va_P D vwCl [(aZ, .inl (cZ, rm, .inl (nF Zb))), (aH, .inl (cI, rm, .inl (nF Hh))), (aB, .inl (cJ, rm, .inr (.inl Bt))), (oR, .inr (0, [.ref aQ])), (aQ, .inl (cJ, 9, .inr (.inl (m_pr (Bt j) (Tm j - Tm (m_anc P (Hh j - (Hh j - 7)) j)) pr)))), (o, .inr (2, [.int (nI rm), .int (nI n), .int (nI bs), .ref aP, .ref aH, .ref aC, .ref aT, .ref aB, .ref aZ, .ref aW, .ref aR, .ref oR, .ref oW])), (aP, .inl (cI, rm, .inl (pF P))), (aT, .inl (cJ, rm, .inr (.inl Tm))), (aR, .inl (cJ, 11, .inr (.inl ((m_med P Tm 11 0 (j + 1) Rk).1))))] H := hP
        have hD : va_D A [(aZ, .inl (cZ, rm, .inl (nF Zb))), (aH, .inl (cI, rm, .inl (nF Hh))), (aB, .inl (cJ, rm, .inr (.inl Bt))), (oR, .inr (0, [.ref aQ])), (aQ, .inl (cJ, 9, .inr (.inl (m_pr (Bt j) (Tm j - Tm (m_anc P (Hh j - (Hh j - 7)) j)) pr)))), (o, .inr (2, [.int (nI rm), .int (nI n), .int (nI bs), .ref aP, .ref aH, .ref aC, .ref aT, .ref aB, .ref aZ, .ref aW, .ref aR, .ref oR, .ref oW])), (aP, .inl (cI, rm, .inl (pF P))), (aT, .inl (cJ, rm, .inr (.inl Tm))), (aR, .inl (cJ, 11, .inr (.inl ((m_med P Tm 11 0 (j + 1) Rk).1))))] := hD
        refine W.eq (g2 := F0 m 42 ls [.long ((m_med P Tm 11 0 (j + 1) Rk).1 ((m_med P Tm 11 0 (j + 1) Rk).2 / 2)), .long t]) rfl ?_
        refine lc_le (tgt := 54) hx hb dT_add_42 dT_add_43 (by decide) (fun c_43 => ?_) (fun c_43 => ?_)
        · skip
          exact absurd ht9 (Int64.not_lt.mpr c_43)
        · skip
          refine lv_lload_n hx hb dT_add_46 rfl (lv_at hl 2 rfl) ?_
          refine lv_ldc2 (v := 4294967295) hx hb hown (hts (.constantLong RT 56 4294967295) (by decide +kernel)) dT_add_47 ?_
          refine lc_le (tgt := 57) hx hb dT_add_50 dT_add_51 (by decide) (fun c_51 => ?_) (fun c_51 => ?_)
          · skip
            refine lv_aload_n hx hb dT_add_57 rfl (lv_at hl 0 rfl) ?_
            refine va_get (D := D) (ci := 2) (v := .int (nI n)) (C := RT) (T := TT) (N := 13) hx hb hts iT_add_T hown hK hP 5 rfl rfl 1 (by decide) (hts (.fieldLink RT 70 "TreeDesk" "count" "I") (by decide +kernel)) (fun _ h9 => h9) rfl dT_add_58 ?_
            refine lv_aload_n hx hb dT_add_61 rfl (lv_at hl 0 rfl) ?_
            refine va_get (D := D) (ci := 2) (v := .int (nI rm)) (C := RT) (T := TT) (N := 13) hx hb hts iT_add_T hown hK hP 5 rfl rfl 0 (by decide) (hts (.fieldLink RT 9 "TreeDesk" "room" "I") (by decide +kernel)) (fun _ h9 => h9) rfl dT_add_62 ?_
            refine lv_icmp_lt (tgt := 71) hx hb dT_add_65 (by decide) (fun c_65 => ?_) (fun c_65 => ?_)
            · skip
              have c_65 : n < rm := n_lt c_65 (by omega) (by omega)
              omega
            · skip
              have c_65 : rm ≤ n := n_nlt c_65 (by omega) (by omega)
              refine lv_bipush (v := (-5)) hx hb dT_add_68 (by decide) ?_
              exact rw_iret (w := [(o, .inr (2, [.int (nI rm), .int (nI n), .int (nI bs), .ref aP, .ref aH, .ref aC, .ref aT, .ref aB, .ref aZ, .ref aW, .ref aR, .ref oR, .ref oW])), (aP, .inl (cI, rm, .inl (pF P))), (aH, .inl (cI, rm, .inl (nF Hh))), (aT, .inl (cJ, rm, .inr (.inl Tm))), (aB, .inl (cJ, rm, .inr (.inl Bt))), (aZ, .inl (cZ, rm, .inl (nF Zb))), (aR, .inl (cJ, 11, .inr (.inl ((m_med P Tm 11 0 (j + 1) Rk).1)))), (oR, .inr (0, [.ref aQ])), (aQ, .inl (cJ, 9, .inr (.inl (m_pr (Bt j) (Tm j - Tm (m_anc P (Hh j - (Hh j - 7)) j)) pr))))]) hQ hx hb hr hlocks dT_add_70 (hP.sub [5, 6, 1, 7, 2, 0, 8, 3, 4] rfl) (hD.sub [5, 6, 1, 7, 2, 0, 8, 3, 4] (by decide) rfl) hS ⟨rfl, rfl⟩
          · skip
            exact absurd ht8 c_51
      · skip
        exact absurd hb9 c_30
    · skip
      rw [← nI_0] at c_16
      have c_16 : ¬ (Zb j) = 0 := n_ne c_16
      omega
  · skip
    rw [← nI_0] at c_5
    have c_5 : 1 = 0 := n_eq c_5 (by omega) (by omega)
    omega
