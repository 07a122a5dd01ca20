abbrev rm_k_isBlock_ok : Room := { frames := 0, cells := 0, slots := 0, locals := 0 }
set_option maxRecDepth 100000 in
set_option maxHeartbeats 4000000 in
theorem k_isBlock_ok (l : Launch) (D : va_G) (cI cJ cZ : ClassId) (o : Nat) (mo : Nat) (n : Nat) (aP : Nat) (aH : Nat) (aT : Nat) (aB : Nat) (aZ : Nat) (aS : Nat) (aa : Nat) (ab : Nat) (ac : Nat) (aR : Nat) (j : Nat) (hn9 : n ≤ 300) (hj : j < n) : ro_C l yM_isBlock wM_isBlock rm_k_isBlock_ok D vwCl (gT cI cJ cZ) [.ref o, .int (nI j)] [(o, .inr (3, [.int (nI mo), .int (nI n), .ref aP, .ref aH, .ref aT, .ref aB, .ref aZ, .ref aS, .ref aa, .ref ab, .ref ac, .ref aR]))] (some (.int (nI 1))) := by
  refine ro_of (cc := cM_isBlock) (maxL := 2) (ret := some .boolean) (by decide) rfl (Nat.le_of_ble_eq_true rfl) ?_
  intro p e s m args below meth c Q ls hx hb hr hml hown hts hlocks hK hP hl hQ
  have hl : lv_has ls 2 [(0, .ref o), (1, .int (nI j))] := hl
  have hown : s.vm.findClass RM = some m.cls := hown
  refine lv_iload_n hx hb dM_isBlock_0 rfl (lv_at hl 1 rfl) ?_
  refine lv_if_lt (tgt := 16) hx hb dM_isBlock_1 (by decide) (fun c_1 => ?_) (fun c_1 => ?_)
  · skip
    rw [← nI_0] at c_1
    have c_1 : j < 0 := n_lt c_1 (by omega) (by omega)
    omega
  · skip
    rw [← nI_0] at c_1
    have c_1 : 0 ≤ j := n_nlt c_1 (by omega) (by omega)
    refine lv_iload_n hx hb dM_isBlock_4 rfl (lv_at hl 1 rfl) ?_
    refine lv_aload_n hx hb dM_isBlock_5 rfl (lv_at hl 0 rfl) ?_
    refine va_get (D := D) (ci := 3) (v := .int (nI n)) (C := RM) (T := TM) (N := 12) hx hb hts iM_isBlock_M hown hK hP 0 rfl rfl 1 (by decide) (hts (.fieldLink RM 54 "TreeDeskModel" "many" "I") (by decide +kernel)) (fun _ h9 => h9) rfl dM_isBlock_6 ?_
    refine lv_icmp_ge (tgt := 16) hx hb dM_isBlock_9 (by decide) (fun c_9 => ?_) (fun c_9 => ?_)
    · skip
      have c_9 : n ≤ j := n_le c_9 (by omega) (by omega)
      omega
    · skip
      have c_9 : j < n := n_nle c_9 (by omega) (by omega)
      refine lv_iconst (v := nI 1) hx hb dM_isBlock_12 (by decide) ?_
      refine lv_goto (tgt := 17) hx hb dM_isBlock_13 (by decide) ?_
      exact ro_zret hQ hx hb hr hlocks dM_isBlock_17 rfl rfl

abbrev rm_k_isBlock_no : Room := { frames := 0, cells := 0, slots := 0, locals := 0 }
set_option maxRecDepth 100000 in
set_option maxHeartbeats 4000000 in
theorem k_isBlock_no (l : Launch) (D : va_G) (cI cJ cZ : ClassId) (o : Nat) (mo : Nat) (n : Nat) (aP : Nat) (aH : Nat) (aT : Nat) (aB : Nat) (aZ : Nat) (aS : Nat) (aa : Nat) (ab : Nat) (ac : Nat) (aR : Nat) (x : Int32) (hx9 : ¬ (0 ≤ x ∧ x < nI n)) : ro_C l yM_isBlock wM_isBlock rm_k_isBlock_no D vwCl (gT cI cJ cZ) [.ref o, .int x] [(o, .inr (3, [.int (nI mo), .int (nI n), .ref aP, .ref aH, .ref aT, .ref aB, .ref aZ, .ref aS, .ref aa, .ref ab, .ref ac, .ref aR]))] (some (.int (nI 0))) := by
  refine ro_of (cc := cM_isBlock) (maxL := 2) (ret := some .boolean) (by decide) rfl (Nat.le_of_ble_eq_true rfl) ?_
  intro p e s m args below meth c Q ls hx hb hr hml hown hts hlocks hK hP hl hQ
  have hl : lv_has ls 2 [(0, .ref o), (1, .int x)] := hl
  have hown : s.vm.findClass RM = some m.cls := hown
  refine lv_iload_n hx hb dM_isBlock_0 rfl (lv_at hl 1 rfl) ?_
  refine lv_if_lt (tgt := 16) hx hb dM_isBlock_1 (by decide) (fun c_1 => ?_) (fun c_1 => ?_)
  · skip
    refine lv_iconst (v := nI 0) hx hb dM_isBlock_16 (by decide) ?_
    exact ro_zret hQ hx hb hr hlocks dM_isBlock_17 rfl rfl
  · skip
    refine lv_iload_n hx hb dM_isBlock_4 rfl (lv_at hl 1 rfl) ?_
    refine lv_aload_n hx hb dM_isBlock_5 rfl (lv_at hl 0 rfl) ?_
    refine va_get (D := D) (ci := 3) (v := .int (nI n)) (C := RM) (T := TM) (N := 12) hx hb hts iM_isBlock_M hown hK hP 0 rfl rfl 1 (by decide) (hts (.fieldLink RM 54 "TreeDeskModel" "many" "I") (by decide +kernel)) (fun _ h9 => h9) rfl dM_isBlock_6 ?_
    refine lv_icmp_ge (tgt := 16) hx hb dM_isBlock_9 (by decide) (fun c_9 => ?_) (fun c_9 => ?_)
    · skip
      refine lv_iconst (v := nI 0) hx hb dM_isBlock_16 (by decide) ?_
      exact ro_zret hQ hx hb hr hlocks dM_isBlock_17 rfl rfl
    · skip
      exact absurd ⟨Int32.not_lt.mp c_1, Int32.not_le.mp c_9⟩ hx9

abbrev rm_k_size : Room := { frames := 0, cells := 0, slots := 0, locals := 0 }
set_option maxRecDepth 100000 in
set_option maxHeartbeats 4000000 in
theorem k_size (l : Launch) (D : va_G) (cI cJ cZ : ClassId) (o : Nat) (mo : Nat) (n : Nat) (aP : Nat) (aH : Nat) (aT : Nat) (aB : Nat) (aZ : Nat) (aS : Nat) (aa : Nat) (ab : Nat) (ac : Nat) (aR : Nat)  : ro_C l yM_size wM_size rm_k_size D vwCl (gT cI cJ cZ) [.ref o] [(o, .inr (3, [.int (nI mo), .int (nI n), .ref aP, .ref aH, .ref aT, .ref aB, .ref aZ, .ref aS, .ref aa, .ref ab, .ref ac, .ref aR]))] (some (.int (nI n))) := by
  refine ro_of (cc := cM_size) (maxL := 1) (ret := some .int) (by decide) rfl (Nat.le_of_ble_eq_true rfl) ?_
  intro p e s m args below meth c Q ls hx hb hr hml hown hts hlocks hK hP hl hQ
  have hl : lv_has ls 1 [(0, .ref o)] := hl
  have hown : s.vm.findClass RM = some m.cls := hown
  refine lv_aload_n hx hb dM_size_0 rfl (lv_at hl 0 rfl) ?_
  refine va_get (D := D) (ci := 3) (v := .int (nI n)) (C := RM) (T := TM) (N := 12) hx hb hts iM_size_M hown hK hP 0 rfl rfl 1 (by decide) (hts (.fieldLink RM 54 "TreeDeskModel" "many" "I") (by decide +kernel)) (fun _ h9 => h9) rfl dM_size_1 ?_
  exact ro_iret hQ hx hb hr hlocks dM_size_4 rfl

abbrev rm_k_below : Room := { frames := 1, cells := 0, slots := 0, locals := 21 }
set_option maxRecDepth 100000 in
set_option maxHeartbeats 4000000 in
theorem k_below (l : Launch) (D : va_G) (cI cJ cZ : ClassId) (o : Nat) (mo : Nat) (n : Nat) (aP : Nat) (aH : Nat) (aT : Nat) (aB : Nat) (aZ : Nat) (aS : Nat) (aa : Nat) (ab : Nat) (ac : Nat) (aR : Nat) (P : Nat → Nat) (Hh : Nat → Nat) (j : Nat) (h : Nat) (hn3 : n ≤ 300) (hj : j < n) (hh9 : h < 2 ^ 31) (hpar : ∀ x : Nat, 0 < x → x < n → P x < x) (hH0 : Hh 0 = 0) (hHs : ∀ x : Nat, 0 < x → x < n → Hh x = Hh (P x) + 1) (hHb : ∀ x : Nat, x < n → Hh x < 300) : ro_C l yM_below wM_below rm_k_below D vwCl (gT cI cJ cZ) [.ref o, .int (nI j), .int (nI h)] [(o, .inr (3, [.int (nI mo), .int (nI n), .ref aP, .ref aH, .ref aT, .ref aB, .ref aZ, .ref aS, .ref aa, .ref ab, .ref ac, .ref aR])), (aP, .inl (cI, 300, .inl (pF P))), (aH, .inl (cI, 300, .inl (nF Hh)))] (some (.int (r_bel P Hh j h))) := by
  refine ro_of (cc := cM_below) (maxL := 4) (ret := some .int) (by decide) rfl (Nat.le_of_ble_eq_true rfl) ?_
  intro p e s m args below meth c Q ls hx hb hr hml hown hts hlocks hK hP hl hQ
  have hl : lv_has ls 4 [(0, .ref o), (1, .int (nI j)), (2, .int (nI h))] := hl
  have hown : s.vm.findClass RM = some m.cls := hown
  have hbj := hHb j hj
  refine lv_aload_n hx hb dM_below_0 rfl (lv_at hl 0 rfl) ?_
  refine lv_iload_n hx hb dM_below_1 rfl (lv_at hl 1 rfl) ?_
  refine ro_ki (va_runV (As := [.int (nI j)]) (rest := []) ⟨hx, hb, hml, hown, hts⟩ (k_isBlock_ok l D cI cJ cZ o mo n aP aH aT aB aZ aS aa ab ac aR j (by omega) (by omega)) (cwV 1 hts gM_below_M_isBlock_102 rfl rfl rfl (by decide +kernel) ⟨Nat.le_of_ble_eq_true rfl, Nat.le_of_ble_eq_true rfl⟩) (ro_preV (hP.sub [0] rfl) hK (va_recv hK hP (ci := 3) (q0 := 0) rfl rfl)) rfl rfl hl.1 rfl (lv_room (Nat.le_of_ble_eq_true rfl)) dM_below_2 ⟨Nat.le_of_ble_eq_true rfl, Nat.le_of_ble_eq_true rfl⟩) ?_
  refine lv_if_eq (tgt := 22) hx hb dM_below_5 (by decide) (fun c_5 => ?_) (fun c_5 => ?_)
  · skip
    rw [← nI_0] at c_5
    have c_5 : 1 = 0 := n_eq c_5 (by omega) (by omega)
    omega
  · skip
    rw [← nI_0] at c_5
    have c_5 : ¬ 1 = 0 := n_ne c_5
    refine lv_iload_n hx hb dM_below_8 rfl (lv_at hl 2 rfl) ?_
    refine lv_if_lt (tgt := 22) hx hb dM_below_9 (by decide) (fun c_9 => ?_) (fun c_9 => ?_)
    · skip
      rw [← nI_0] at c_9
      have c_9 : h < 0 := n_lt c_9 (by omega) (by omega)
      omega
    · skip
      rw [← nI_0] at c_9
      have c_9 : 0 ≤ h := n_nlt c_9 (by omega) (by omega)
      refine lv_iload_n hx hb dM_below_12 rfl (lv_at hl 2 rfl) ?_
      refine lv_aload_n hx hb dM_below_13 rfl (lv_at hl 0 rfl) ?_
      refine va_get (D := D) (ci := 3) (v := .ref aH) (C := RM) (T := TM) (N := 12) hx hb hts iM_below_M hown hK hP 0 rfl rfl 3 (by decide) (hts (.fieldLink RM 13 "TreeDeskModel" "height" "[I") (by decide +kernel)) (fun _ h9 => h9) rfl dM_below_14 ?_
      refine lv_iload_n hx hb dM_below_17 rfl (lv_at hl 1 rfl) ?_
      refine ar_ild (j := j) hx hb hK hP 2 0 rfl rfl dM_below_18 (by omega) (by omega) ?_
      refine tp_i (y := nI (Hh j)) rfl ?_
      refine lv_icmp_le (tgt := 24) hx hb dM_below_19 (by decide) (fun c_19 => ?_) (fun c_19 => ?_)
      · skip
        have c_19 : h ≤ (Hh j) := n_le c_19 (by omega) (by omega)
        refine lv_iload_n hx hb dM_below_24 rfl (lv_at hl 1 rfl) ?_
        refine lv_istore_n (lv' := [(3, .int (nI j)), (0, .ref o), (1, .int (nI j)), (2, .int (nI h))]) hx hb dM_below_25 rfl hl (by decide) rfl (fun ls hl => ?_)
        have lp_26 : ∀ (n_26 : Nat) (x : Nat), (x < n_26) → (x < n) → (h ≤ Hh x) → (m_anc P (Hh x - h) x = m_anc P (Hh j - h) j) → ∀ (ls : Array Slot), lv_has ls 4 [(0, .ref o), (2, .int (nI h)), (3, .int (nI x))] → W p l e rm_k_below s m args below meth c s.heap [] 0 0 Q (F0 m 26 ls []) := by
          intro n_26
          induction n_26 with
          | zero => intro x hn hx9 hxh hg ls hl; exact absurd hn (by omega)
          | succ n_26 ih_26 =>
            intro x hn hx9 hxh hg ls hl
            have hbx := hHb x hx9
            refine lv_aload_n hx hb dM_below_26 rfl (lv_at hl 0 rfl) ?_
            refine va_get (D := D) (ci := 3) (v := .ref aH) (C := RM) (T := TM) (N := 12) hx hb hts iM_below_M hown hK hP 0 rfl rfl 3 (by decide) (hts (.fieldLink RM 13 "TreeDeskModel" "height" "[I") (by decide +kernel)) (fun _ h9 => h9) rfl dM_below_27 ?_
            refine lv_iload_n hx hb dM_below_30 rfl (lv_at hl 2 rfl) ?_
            refine ar_ild (j := x) hx hb hK hP 2 0 rfl rfl dM_below_31 (by omega) (by omega) ?_
            refine tp_i (y := nI (Hh x)) rfl ?_
            refine lv_iload_n hx hb dM_below_32 rfl (lv_at hl 1 rfl) ?_
            refine lv_icmp_le (tgt := 46) hx hb dM_below_33 (by decide) (fun c_33 => ?_) (fun c_33 => ?_)
            · skip
              have c_33 : (Hh x) ≤ h := n_le c_33 (by omega) (by omega)
              refine lv_iload_n hx hb dM_below_46 rfl (lv_at hl 2 rfl) ?_
              exact ro_iret hQ hx hb hr hlocks dM_below_47 (by unfold r_bel; rw [if_pos c_19, ← hg, m_anc_d (by omega)])
            · skip
              have c_33 : h < (Hh x) := n_nle c_33 (by omega) (by omega)
              have hx0 : 0 < x := by rcases Nat.eq_zero_or_pos x with h0 | h0; (subst h0; omega); exact h0
              have hps := hpar x hx0 hx9
              have hhs := hHs x hx0 hx9
              refine lv_aload_n hx hb dM_below_36 rfl (lv_at hl 0 rfl) ?_
              refine va_get (D := D) (ci := 3) (v := .ref aP) (C := RM) (T := TM) (N := 12) hx hb hts iM_below_M hown hK hP 0 rfl rfl 2 (by decide) (hts (.fieldLink RM 7 "TreeDeskModel" "parent" "[I") (by decide +kernel)) (fun _ h9 => h9) rfl dM_below_37 ?_
              refine lv_iload_n hx hb dM_below_40 rfl (lv_at hl 2 rfl) ?_
              refine ar_ild (j := x) hx hb hK hP 1 0 rfl rfl dM_below_41 (by omega) (by omega) ?_
              refine tp_i (y := nI (P x)) (pF_s hx0) ?_
              refine lv_istore_n (lv' := [(3, .int (nI (P x))), (0, .ref o), (2, .int (nI h))]) hx hb dM_below_42 rfl hl (by decide) rfl (fun ls hl => ?_)
              refine lv_goto (tgt := 26) hx hb dM_below_43 (by decide) ?_
              exact ih_26 (P x) (by omega) (by omega) (by omega) (by rw [← hg, show Hh (P x) - h = (Hh x - h) - 1 by omega, m_anc_s (by omega) hx0]) ls (lv_sub hl [1, 2, 0] rfl)
        exact lp_26 (j + 1) j (by omega) hj (by omega) rfl ls (lv_sub hl [1, 3, 0] rfl)
      · skip
        have c_19 : (Hh j) < h := n_nle c_19 (by omega) (by omega)
        refine lv_iconst (v := (-1)) hx hb dM_below_22 (by decide) ?_
        exact ro_iret hQ hx hb hr hlocks dM_below_23 (by unfold r_bel; rw [if_neg (by omega)])

abbrev rm_k_below_nob : Room := { frames := 1, cells := 0, slots := 0, locals := 21 }
set_option maxRecDepth 100000 in
set_option maxHeartbeats 4000000 in
theorem k_below_nob (l : Launch) (D : va_G) (cI cJ cZ : ClassId) (o : Nat) (mo : Nat) (n : Nat) (aP : Nat) (aH : Nat) (aT : Nat) (aB : Nat) (aZ : Nat) (aS : Nat) (aa : Nat) (ab : Nat) (ac : Nat) (aR : Nat) (x : Int32) (h : Int32) (hx9 : ¬ (0 ≤ x ∧ x < nI n)) : ro_C l yM_below wM_below rm_k_below_nob D vwCl (gT cI cJ cZ) [.ref o, .int x, .int h] [(o, .inr (3, [.int (nI mo), .int (nI n), .ref aP, .ref aH, .ref aT, .ref aB, .ref aZ, .ref aS, .ref aa, .ref ab, .ref ac, .ref aR]))] (some (.int (-1))) := by
  refine ro_of (cc := cM_below) (maxL := 4) (ret := some .int) (by decide) rfl (Nat.le_of_ble_eq_true rfl) ?_
  intro p e s m args below meth c Q ls hx hb hr hml hown hts hlocks hK hP hl hQ
  have hl : lv_has ls 4 [(0, .ref o), (1, .int x), (2, .int h)] := hl
  have hown : s.vm.findClass RM = some m.cls := hown
  refine lv_aload_n hx hb dM_below_0 rfl (lv_at hl 0 rfl) ?_
  refine lv_iload_n hx hb dM_below_1 rfl (lv_at hl 1 rfl) ?_
  refine ro_ki (va_runV (As := [.int x]) (rest := []) ⟨hx, hb, hml, hown, hts⟩ (k_isBlock_no l D cI cJ cZ o mo n aP aH aT aB aZ aS aa ab ac aR x hx9) (cwV 1 hts gM_below_M_isBlock_102 rfl rfl rfl (by decide +kernel) ⟨Nat.le_of_ble_eq_true rfl, Nat.le_of_ble_eq_true rfl⟩) (ro_preV (hP.sub [0] rfl) hK (va_recv hK hP (ci := 3) (q0 := 0) rfl rfl)) rfl rfl hl.1 rfl (lv_room (Nat.le_of_ble_eq_true rfl)) dM_below_2 ⟨Nat.le_of_ble_eq_true rfl, Nat.le_of_ble_eq_true rfl⟩) ?_
  refine lv_if_eq (tgt := 22) hx hb dM_below_5 (by decide) (fun c_5 => ?_) (fun c_5 => ?_)
  · skip
    rw [← nI_0] at c_5
    have c_5 : 0 = 0 := n_eq c_5 (by omega) (by omega)
    refine lv_iconst (v := (-1)) hx hb dM_below_22 (by decide) ?_
    exact ro_iret hQ hx hb hr hlocks dM_below_23 rfl
  · skip
    rw [← nI_0] at c_5
    have c_5 : ¬ 0 = 0 := n_ne c_5
    omega

abbrev rm_k_below_neg : Room := { frames := 1, cells := 0, slots := 0, locals := 21 }
set_option maxRecDepth 100000 in
set_option maxHeartbeats 4000000 in
theorem k_below_neg (l : Launch) (D : va_G) (cI cJ cZ : ClassId) (o : Nat) (mo : Nat) (n : Nat) (aP : Nat) (aH : Nat) (aT : Nat) (aB : Nat) (aZ : Nat) (aS : Nat) (aa : Nat) (ab : Nat) (ac : Nat) (aR : Nat) (j : Nat) (h : Int32) (hn3 : n ≤ 300) (hj : j < n) (hh9 : h < 0) : ro_C l yM_below wM_below rm_k_below_neg D vwCl (gT cI cJ cZ) [.ref o, .int (nI j), .int h] [(o, .inr (3, [.int (nI mo), .int (nI n), .ref aP, .ref aH, .ref aT, .ref aB, .ref aZ, .ref aS, .ref aa, .ref ab, .ref ac, .ref aR]))] (some (.int (-1))) := by
  refine ro_of (cc := cM_below) (maxL := 4) (ret := some .int) (by decide) rfl (Nat.le_of_ble_eq_true rfl) ?_
  intro p e s m args below meth c Q ls hx hb hr hml hown hts hlocks hK hP hl hQ
  have hl : lv_has ls 4 [(0, .ref o), (1, .int (nI j)), (2, .int h)] := hl
  have hown : s.vm.findClass RM = some m.cls := hown
  refine lv_aload_n hx hb dM_below_0 rfl (lv_at hl 0 rfl) ?_
  refine lv_iload_n hx hb dM_below_1 rfl (lv_at hl 1 rfl) ?_
  refine ro_ki (va_runV (As := [.int (nI j)]) (rest := []) ⟨hx, hb, hml, hown, hts⟩ (k_isBlock_ok l D cI cJ cZ o mo n aP aH aT aB aZ aS aa ab ac aR j (by omega) (by omega)) (cwV 1 hts gM_below_M_isBlock_102 rfl rfl rfl (by decide +kernel) ⟨Nat.le_of_ble_eq_true rfl, Nat.le_of_ble_eq_true rfl⟩) (ro_preV (hP.sub [0] rfl) hK (va_recv hK hP (ci := 3) (q0 := 0) rfl rfl)) rfl rfl hl.1 rfl (lv_room (Nat.le_of_ble_eq_true rfl)) dM_below_2 ⟨Nat.le_of_ble_eq_true rfl, Nat.le_of_ble_eq_true rfl⟩) ?_
  refine lv_if_eq (tgt := 22) hx hb dM_below_5 (by decide) (fun c_5 => ?_) (fun c_5 => ?_)
  · skip
    rw [← nI_0] at c_5
    have c_5 : 1 = 0 := n_eq c_5 (by omega) (by omega)
    omega
  · skip
    rw [← nI_0] at c_5
    have c_5 : ¬ 1 = 0 := n_ne c_5
    refine lv_iload_n hx hb dM_below_8 rfl (lv_at hl 2 rfl) ?_
    refine lv_if_lt (tgt := 22) hx hb dM_below_9 (by decide) (fun c_9 => ?_) (fun c_9 => ?_)
    · skip
      refine lv_iconst (v := (-1)) hx hb dM_below_22 (by decide) ?_
      exact ro_iret hQ hx hb hr hlocks dM_below_23 rfl
    · skip
      exact absurd hh9 c_9

abbrev rm_k_compare : Room := { frames := 1, cells := 0, slots := 0, locals := 21 }
set_option maxRecDepth 100000 in
set_option maxHeartbeats 4000000 in
theorem k_compare (l : Launch) (D : va_G) (cI cJ cZ : ClassId) (o : Nat) (mo : Nat) (n : Nat) (aP : Nat) (aH : Nat) (aT : Nat) (aB : Nat) (aZ : Nat) (aS : Nat) (aa : Nat) (ab : Nat) (ac : Nat) (aR : Nat) (Sm : Nat → Nat) (x : Nat) (y : Nat) (hn3 : n ≤ 300) (hx9 : x < n) (hy9 : y < n) (hS8 : by8 Sm) : ro_C l yM_compare wM_compare rm_k_compare D vwCl (gT cI cJ cZ) [.ref o, .int (nI x), .int (nI y)] [(o, .inr (3, [.int (nI mo), .int (nI n), .ref aP, .ref aH, .ref aT, .ref aB, .ref aZ, .ref aS, .ref aa, .ref ab, .ref ac, .ref aR])), (aS, .inl (cI, 12000, .inl (nF Sm)))] (some (.int (r_cmp (shf Sm (40 * x)) (shf Sm (40 * y)) 40 0 (nI 0)))) := by
  refine ro_of (cc := cM_compare) (maxL := 7) (ret := some .int) (by decide) rfl (Nat.le_of_ble_eq_true rfl) ?_
  intro p e s m args below meth c Q ls hx hb hr hml hown hts hlocks hK hP hl hQ
  have hl : lv_has ls 7 [(0, .ref o), (1, .int (nI x)), (2, .int (nI y))] := hl
  have hown : s.vm.findClass RM = some m.cls := hown
  refine lv_aload_n hx hb dM_compare_0 rfl (lv_at hl 0 rfl) ?_
  refine lv_iload_n hx hb dM_compare_1 rfl (lv_at hl 1 rfl) ?_
  refine ro_ki (va_runV (As := [.int (nI x)]) (rest := []) ⟨hx, hb, hml, hown, hts⟩ (k_isBlock_ok l D cI cJ cZ o mo n aP aH aT aB aZ aS aa ab ac aR x (by omega) (by omega)) (cwV 1 hts gM_compare_M_isBlock_102 rfl rfl rfl (by decide +kernel) ⟨Nat.le_of_ble_eq_true rfl, Nat.le_of_ble_eq_true rfl⟩) (ro_preV (hP.sub [0] rfl) hK (va_recv hK hP (ci := 3) (q0 := 0) rfl rfl)) rfl rfl hl.1 rfl (lv_room (Nat.le_of_ble_eq_true rfl)) dM_compare_2 ⟨Nat.le_of_ble_eq_true rfl, Nat.le_of_ble_eq_true rfl⟩) ?_
  refine lv_if_eq (tgt := 16) hx hb dM_compare_5 (by decide) (fun c_5 => ?_) (fun c_5 => ?_)
  · skip
    rw [← nI_0] at c_5
    have c_5 : 1 = 0 := n_eq c_5 (by omega) (by omega)
    omega
  · skip
    rw [← nI_0] at c_5
    have c_5 : ¬ 1 = 0 := n_ne c_5
    refine lv_aload_n hx hb dM_compare_8 rfl (lv_at hl 0 rfl) ?_
    refine lv_iload_n hx hb dM_compare_9 rfl (lv_at hl 2 rfl) ?_
    refine ro_ki (va_runV (As := [.int (nI y)]) (rest := []) ⟨hx, hb, hml, hown, hts⟩ (k_isBlock_ok l D cI cJ cZ o mo n aP aH aT aB aZ aS aa ab ac aR y (by omega) (by omega)) (cwV 1 hts gM_compare_M_isBlock_102 rfl rfl rfl (by decide +kernel) ⟨Nat.le_of_ble_eq_true rfl, Nat.le_of_ble_eq_true rfl⟩) (ro_preV (hP.sub [0] rfl) hK (va_recv hK hP (ci := 3) (q0 := 0) rfl rfl)) rfl rfl hl.1 rfl (lv_room (Nat.le_of_ble_eq_true rfl)) dM_compare_10 ⟨Nat.le_of_ble_eq_true rfl, Nat.le_of_ble_eq_true rfl⟩) ?_
    refine lv_if_ne (tgt := 19) hx hb dM_compare_13 (by decide) (fun c_13 => ?_) (fun c_13 => ?_)
    · skip
      rw [← nI_0] at c_13
      have c_13 : ¬ 1 = 0 := n_ne c_13
      refine lv_iconst (v := nI 0) hx hb dM_compare_19 (by decide) ?_
      refine lv_istore_n (lv' := [(3, .int (nI 0)), (0, .ref o), (1, .int (nI x)), (2, .int (nI y))]) hx hb dM_compare_20 rfl hl (by decide) rfl (fun ls hl => ?_)
      refine lv_iconst (v := nI 0) hx hb dM_compare_21 (by decide) ?_
      refine lv_istore (lv' := [(4, .int (nI 0)), (3, .int (nI 0)), (0, .ref o), (1, .int (nI x)), (2, .int (nI y))]) hx hb dM_compare_22 hl (by decide) rfl (fun ls hl => ?_)
      have lp_24 : ∀ (n_24 : Nat) (d i : Nat) (od : Int32), (d < n_24) → (i + d = 40) → (r_cmp (shf Sm (40 * x)) (shf Sm (40 * y)) d i od = r_cmp (shf Sm (40 * x)) (shf Sm (40 * y)) 40 0 (nI 0)) → ∀ (ls : Array Slot), lv_has ls 7 [(0, .ref o), (1, .int (nI x)), (2, .int (nI y)), (3, .int od), (4, .int (nI i))] → W p l e rm_k_compare s m args below meth c s.heap [] 0 0 Q (F0 m 24 ls []) := by
        intro n_24
        induction n_24 with
        | zero => intro d i od hn hd hg ls hl; exact absurd hn (by omega)
        | succ n_24 ih_24 =>
          intro d i od hn hd hg ls hl
          refine lv_iload hx hb dM_compare_24 (lv_at hl 4 rfl) ?_
          refine lv_bipush (v := nI 40) hx hb dM_compare_26 (by decide) ?_
          refine lv_icmp_ge (tgt := 89) hx hb dM_compare_28 (by decide) (fun c_28 => ?_) (fun c_28 => ?_)
          · skip
            have c_28 : 40 ≤ i := n_le c_28 (by omega) (by omega)
            have hd0 : d = 0 := by omega
            subst hd0
            refine lv_iload_n hx hb dM_compare_89 rfl (lv_at hl 3 rfl) ?_
            exact ro_iret hQ hx hb hr hlocks dM_compare_90 (by rw [← hg]; rfl)
          · skip
            have c_28 : i < 40 := n_nle c_28 (by omega) (by omega)
            obtain ⟨d, rfl⟩ : ∃ d' : Nat, d = d' + 1 := ⟨d - 1, by omega⟩
            have hai : shf Sm (40 * x) i < 256 := hS8 _
            have hbi : shf Sm (40 * y) i < 256 := hS8 _
            refine lv_aload_n hx hb dM_compare_31 rfl (lv_at hl 0 rfl) ?_
            refine va_get (D := D) (ci := 3) (v := .ref aS) (C := RM) (T := TM) (N := 12) hx hb hts iM_compare_M hown hK hP 0 rfl rfl 7 (by decide) (hts (.fieldLink RM 27 "TreeDeskModel" "sums" "[I") (by decide +kernel)) (fun _ h9 => h9) rfl dM_compare_32 ?_
            refine lv_bipush (v := nI 40) hx hb dM_compare_35 (by decide) ?_
            refine lv_iload_n hx hb dM_compare_37 rfl (lv_at hl 1 rfl) ?_
            refine lv_imul hx hb dM_compare_38 ?_
            refine tp_i (y := nI (40 * x)) (pk_mul _ _) ?_
            refine lv_iload hx hb dM_compare_39 (lv_at hl 4 rfl) ?_
            refine lv_iadd hx hb dM_compare_41 ?_
            refine tp_i (y := nI ((40 * x) + i)) (nI_add _ _) ?_
            refine ar_ild (j := (40 * x) + i) hx hb hK hP 1 0 rfl rfl dM_compare_42 (by omega) (by omega) ?_
            refine tp_i (y := nI (shf Sm (40 * x) i)) rfl ?_
            refine lv_istore (lv' := [(5, .int (nI (shf Sm (40 * x) i))), (0, .ref o), (1, .int (nI x)), (2, .int (nI y)), (3, .int od), (4, .int (nI i))]) hx hb dM_compare_43 hl (by decide) rfl (fun ls hl => ?_)
            refine lv_aload_n hx hb dM_compare_45 rfl (lv_at hl 1 rfl) ?_
            refine va_get (D := D) (ci := 3) (v := .ref aS) (C := RM) (T := TM) (N := 12) hx hb hts iM_compare_M hown hK hP 0 rfl rfl 7 (by decide) (hts (.fieldLink RM 27 "TreeDeskModel" "sums" "[I") (by decide +kernel)) (fun _ h9 => h9) rfl dM_compare_46 ?_
            refine lv_bipush (v := nI 40) hx hb dM_compare_49 (by decide) ?_
            refine lv_iload_n hx hb dM_compare_51 rfl (lv_at hl 3 rfl) ?_
            refine lv_imul hx hb dM_compare_52 ?_
            refine tp_i (y := nI (40 * y)) (pk_mul _ _) ?_
            refine lv_iload hx hb dM_compare_53 (lv_at hl 5 rfl) ?_
            refine lv_iadd hx hb dM_compare_55 ?_
            refine tp_i (y := nI ((40 * y) + i)) (nI_add _ _) ?_
            refine ar_ild (j := (40 * y) + i) hx hb hK hP 1 0 rfl rfl dM_compare_56 (by omega) (by omega) ?_
            refine tp_i (y := nI (shf Sm (40 * y) i)) rfl ?_
            refine lv_istore (lv' := [(6, .int (nI (shf Sm (40 * y) i))), (5, .int (nI (shf Sm (40 * x) i))), (0, .ref o), (1, .int (nI x)), (2, .int (nI y)), (3, .int od), (4, .int (nI i))]) hx hb dM_compare_57 hl (by decide) rfl (fun ls hl => ?_)
            refine lv_iload hx hb dM_compare_59 (lv_at hl 1 rfl) ?_
            refine lv_iload hx hb dM_compare_61 (lv_at hl 0 rfl) ?_
            refine lv_icmp_ge (tgt := 70) hx hb dM_compare_63 (by decide) (fun c_63 => ?_) (fun c_63 => ?_)
            · skip
              have c_63 : (shf Sm (40 * y) i) ≤ (shf Sm (40 * x) i) := n_le c_63 (by omega) (by omega)
              refine lv_iload hx hb dM_compare_70 (lv_at hl 1 rfl) ?_
              refine lv_iload hx hb dM_compare_72 (lv_at hl 0 rfl) ?_
              refine lv_icmp_le (tgt := 81) hx hb dM_compare_74 (by decide) (fun c_74 => ?_) (fun c_74 => ?_)
              · skip
                have c_74 : (shf Sm (40 * x) i) ≤ (shf Sm (40 * y) i) := n_le c_74 (by omega) (by omega)
                refine lv_iload_n hx hb dM_compare_81 rfl (lv_at hl 5 rfl) ?_
                refine lv_istore_n (lv' := [(3, .int od), (6, .int (nI (shf Sm (40 * y) i))), (5, .int (nI (shf Sm (40 * x) i))), (0, .ref o), (1, .int (nI x)), (2, .int (nI y)), (4, .int (nI i))]) hx hb dM_compare_82 rfl hl (by decide) rfl (fun ls hl => ?_)
                refine lv_iinc (v := nI (i + 1)) (lv' := [(4, .int (nI (i + 1))), (3, .int od), (6, .int (nI (shf Sm (40 * y) i))), (5, .int (nI (shf Sm (40 * x) i))), (0, .ref o), (1, .int (nI x)), (2, .int (nI y))]) hx hb dM_compare_83 hl (k := 6) rfl (nI_add _ 1) (by decide) rfl (fun ls hl => ?_)
                refine lv_goto (tgt := 24) hx hb dM_compare_86 (by decide) ?_
                exact ih_24 d (i + 1) od (by omega) (by omega) (by rw [← hg, r_cmp, if_neg (by omega), if_neg (by omega)]) ls (lv_sub hl [4, 5, 6, 1, 0] rfl)
              · skip
                have c_74 : (shf Sm (40 * y) i) < (shf Sm (40 * x) i) := n_nle c_74 (by omega) (by omega)
                refine lv_iconst (v := nI 1) hx hb dM_compare_77 (by decide) ?_
                refine lv_goto (tgt := 82) hx hb dM_compare_78 (by decide) ?_
                refine lv_istore_n (lv' := [(3, .int (nI 1)), (6, .int (nI (shf Sm (40 * y) i))), (5, .int (nI (shf Sm (40 * x) i))), (0, .ref o), (1, .int (nI x)), (2, .int (nI y)), (4, .int (nI i))]) hx hb dM_compare_82 rfl hl (by decide) rfl (fun ls hl => ?_)
                refine lv_iinc (v := nI (i + 1)) (lv' := [(4, .int (nI (i + 1))), (3, .int (nI 1)), (6, .int (nI (shf Sm (40 * y) i))), (5, .int (nI (shf Sm (40 * x) i))), (0, .ref o), (1, .int (nI x)), (2, .int (nI y))]) hx hb dM_compare_83 hl (k := 6) rfl (nI_add _ 1) (by decide) rfl (fun ls hl => ?_)
                refine lv_goto (tgt := 24) hx hb dM_compare_86 (by decide) ?_
                exact ih_24 d (i + 1) (nI 1) (by omega) (by omega) (by rw [← hg, r_cmp, if_neg (by omega), if_pos c_74]) ls (lv_sub hl [4, 5, 6, 1, 0] rfl)
            · skip
              have c_63 : (shf Sm (40 * x) i) < (shf Sm (40 * y) i) := n_nle c_63 (by omega) (by omega)
              refine lv_iconst (v := (-1)) hx hb dM_compare_66 (by decide) ?_
              refine lv_goto (tgt := 82) hx hb dM_compare_67 (by decide) ?_
              refine lv_istore_n (lv' := [(3, .int (-1)), (6, .int (nI (shf Sm (40 * y) i))), (5, .int (nI (shf Sm (40 * x) i))), (0, .ref o), (1, .int (nI x)), (2, .int (nI y)), (4, .int (nI i))]) hx hb dM_compare_82 rfl hl (by decide) rfl (fun ls hl => ?_)
              refine lv_iinc (v := nI (i + 1)) (lv' := [(4, .int (nI (i + 1))), (3, .int (-1)), (6, .int (nI (shf Sm (40 * y) i))), (5, .int (nI (shf Sm (40 * x) i))), (0, .ref o), (1, .int (nI x)), (2, .int (nI y))]) hx hb dM_compare_83 hl (k := 6) rfl (nI_add _ 1) (by decide) rfl (fun ls hl => ?_)
              refine lv_goto (tgt := 24) hx hb dM_compare_86 (by decide) ?_
              exact ih_24 d (i + 1) (-1) (by omega) (by omega) (by rw [← hg, r_cmp, if_pos c_63]) ls (lv_sub hl [4, 5, 6, 1, 0] rfl)
      exact lp_24 41 40 0 (nI 0) (by omega) (by omega) rfl ls (lv_sub hl [2, 3, 4, 1, 0] rfl)
    · skip
      rw [← nI_0] at c_13
      have c_13 : 1 = 0 := n_eq c_13 (by omega) (by omega)
      omega

abbrev rm_k_compare_noa : Room := { frames := 1, cells := 0, slots := 0, locals := 21 }
set_option maxRecDepth 100000 in
set_option maxHeartbeats 4000000 in
theorem k_compare_noa (l : Launch) (D : va_G) (cI cJ cZ : ClassId) (o : Nat) (mo : Nat) (n : Nat) (aP : Nat) (aH : Nat) (aT : Nat) (aB : Nat) (aZ : Nat) (aS : Nat) (aa : Nat) (ab : Nat) (ac : Nat) (aR : Nat) (x : Int32) (y : Int32) (hx9 : ¬ (0 ≤ x ∧ x < nI n)) : ro_C l yM_compare wM_compare rm_k_compare_noa D vwCl (gT cI cJ cZ) [.ref o, .int x, .int y] [(o, .inr (3, [.int (nI mo), .int (nI n), .ref aP, .ref aH, .ref aT, .ref aB, .ref aZ, .ref aS, .ref aa, .ref ab, .ref ac, .ref aR]))] (some (.int (-2))) := by
  refine ro_of (cc := cM_compare) (maxL := 7) (ret := some .int) (by decide) rfl (Nat.le_of_ble_eq_true rfl) ?_
  intro p e s m args below meth c Q ls hx hb hr hml hown hts hlocks hK hP hl hQ
  have hl : lv_has ls 7 [(0, .ref o), (1, .int x), (2, .int y)] := hl
  have hown : s.vm.findClass RM = some m.cls := hown
  refine lv_aload_n hx hb dM_compare_0 rfl (lv_at hl 0 rfl) ?_
  refine lv_iload_n hx hb dM_compare_1 rfl (lv_at hl 1 rfl) ?_
  refine ro_ki (va_runV (As := [.int x]) (rest := []) ⟨hx, hb, hml, hown, hts⟩ (k_isBlock_no l D cI cJ cZ o mo n aP aH aT aB aZ aS aa ab ac aR x hx9) (cwV 1 hts gM_compare_M_isBlock_102 rfl rfl rfl (by decide +kernel) ⟨Nat.le_of_ble_eq_true rfl, Nat.le_of_ble_eq_true rfl⟩) (ro_preV (hP.sub [0] rfl) hK (va_recv hK hP (ci := 3) (q0 := 0) rfl rfl)) rfl rfl hl.1 rfl (lv_room (Nat.le_of_ble_eq_true rfl)) dM_compare_2 ⟨Nat.le_of_ble_eq_true rfl, Nat.le_of_ble_eq_true rfl⟩) ?_
  refine lv_if_eq (tgt := 16) hx hb dM_compare_5 (by decide) (fun c_5 => ?_) (fun c_5 => ?_)
  · skip
    rw [← nI_0] at c_5
    have c_5 : 0 = 0 := n_eq c_5 (by omega) (by omega)
    refine lv_bipush (v := (-2)) hx hb dM_compare_16 (by decide) ?_
    exact ro_iret hQ hx hb hr hlocks dM_compare_18 rfl
  · skip
    rw [← nI_0] at c_5
    have c_5 : ¬ 0 = 0 := n_ne c_5
    omega

abbrev rm_k_compare_nob : Room := { frames := 1, cells := 0, slots := 0, locals := 21 }
set_option maxRecDepth 100000 in
set_option maxHeartbeats 4000000 in
theorem k_compare_nob (l : Launch) (D : va_G) (cI cJ cZ : ClassId) (o : Nat) (mo : Nat) (n : Nat) (aP : Nat) (aH : Nat) (aT : Nat) (aB : Nat) (aZ : Nat) (aS : Nat) (aa : Nat) (ab : Nat) (ac : Nat) (aR : Nat) (x : Nat) (y : Int32) (hn9 : n ≤ 300) (hx8 : x < n) (hx9 : ¬ (0 ≤ y ∧ y < nI n)) : ro_C l yM_compare wM_compare rm_k_compare_nob D vwCl (gT cI cJ cZ) [.ref o, .int (nI x), .int y] [(o, .inr (3, [.int (nI mo), .int (nI n), .ref aP, .ref aH, .ref aT, .ref aB, .ref aZ, .ref aS, .ref aa, .ref ab, .ref ac, .ref aR]))] (some (.int (-2))) := by
  refine ro_of (cc := cM_compare) (maxL := 7) (ret := some .int) (by decide) rfl (Nat.le_of_ble_eq_true rfl) ?_
  intro p e s m args below meth c Q ls hx hb hr hml hown hts hlocks hK hP hl hQ
  have hl : lv_has ls 7 [(0, .ref o), (1, .int (nI x)), (2, .int y)] := hl
  have hown : s.vm.findClass RM = some m.cls := hown
  refine lv_aload_n hx hb dM_compare_0 rfl (lv_at hl 0 rfl) ?_
  refine lv_iload_n hx hb dM_compare_1 rfl (lv_at hl 1 rfl) ?_
  refine ro_ki (va_runV (As := [.int (nI x)]) (rest := []) ⟨hx, hb, hml, hown, hts⟩ (k_isBlock_ok l D cI cJ cZ o mo n aP aH aT aB aZ aS aa ab ac aR x (by omega) (by omega)) (cwV 1 hts gM_compare_M_isBlock_102 rfl rfl rfl (by decide +kernel) ⟨Nat.le_of_ble_eq_true rfl, Nat.le_of_ble_eq_true rfl⟩) (ro_preV (hP.sub [0] rfl) hK (va_recv hK hP (ci := 3) (q0 := 0) rfl rfl)) rfl rfl hl.1 rfl (lv_room (Nat.le_of_ble_eq_true rfl)) dM_compare_2 ⟨Nat.le_of_ble_eq_true rfl, Nat.le_of_ble_eq_true rfl⟩) ?_
  refine lv_if_eq (tgt := 16) hx hb dM_compare_5 (by decide) (fun c_5 => ?_) (fun c_5 => ?_)
  · skip
    rw [← nI_0] at c_5
    have c_5 : 1 = 0 := n_eq c_5 (by omega) (by omega)
    omega
  · skip
    rw [← nI_0] at c_5
    have c_5 : ¬ 1 = 0 := n_ne c_5
    refine lv_aload_n hx hb dM_compare_8 rfl (lv_at hl 0 rfl) ?_
    refine lv_iload_n hx hb dM_compare_9 rfl (lv_at hl 2 rfl) ?_
    refine ro_ki (va_runV (As := [.int y]) (rest := []) ⟨hx, hb, hml, hown, hts⟩ (k_isBlock_no l D cI cJ cZ o mo n aP aH aT aB aZ aS aa ab ac aR y hx9) (cwV 1 hts gM_compare_M_isBlock_102 rfl rfl rfl (by decide +kernel) ⟨Nat.le_of_ble_eq_true rfl, Nat.le_of_ble_eq_true rfl⟩) (ro_preV (hP.sub [0] rfl) hK (va_recv hK hP (ci := 3) (q0 := 0) rfl rfl)) rfl rfl hl.1 rfl (lv_room (Nat.le_of_ble_eq_true rfl)) dM_compare_10 ⟨Nat.le_of_ble_eq_true rfl, Nat.le_of_ble_eq_true rfl⟩) ?_
    refine lv_if_ne (tgt := 19) hx hb dM_compare_13 (by decide) (fun c_13 => ?_) (fun c_13 => ?_)
    · skip
      rw [← nI_0] at c_13
      have c_13 : ¬ 0 = 0 := n_ne c_13
      omega
    · skip
      rw [← nI_0] at c_13
      have c_13 : 0 = 0 := n_eq c_13 (by omega) (by omega)
      refine lv_bipush (v := (-2)) hx hb dM_compare_16 (by decide) ?_
      exact ro_iret hQ hx hb hr hlocks dM_compare_18 rfl

abbrev rm_k_tip : Room := { frames := 2, cells := 0, slots := 0, locals := 47 }
set_option maxRecDepth 100000 in
set_option maxHeartbeats 4000000 in
theorem k_tip (l : Launch) (D : va_G) (cI cJ cZ : ClassId) (o : Nat) (mo : Nat) (n : Nat) (aP : Nat) (aH : Nat) (aT : Nat) (aB : Nat) (aZ : Nat) (aS : Nat) (aa : Nat) (ab : Nat) (ac : Nat) (aR : Nat) (Zb : Nat → Nat) (Sm : Nat → Nat) (hn3 : n ≤ 300) (hn1 : 1 ≤ n) (hz9 : ∀ x : Nat, Zb x < 2) (hS8 : by8 Sm) : ro_C l yM_tip wM_tip rm_k_tip D vwCl (gT cI cJ cZ) [.ref o] [(o, .inr (3, [.int (nI mo), .int (nI n), .ref aP, .ref aH, .ref aT, .ref aB, .ref aZ, .ref aS, .ref aa, .ref ab, .ref ac, .ref aR])), (aZ, .inl (cZ, 300, .inl (nF Zb))), (aS, .inl (cI, 12000, .inl (nF Sm)))] (some (.int (nI (r_tip Zb Sm (n - 1) 1 0)))) := by
  refine ro_of (cc := cM_tip) (maxL := 3) (ret := some .int) (by decide) rfl (Nat.le_of_ble_eq_true rfl) ?_
  intro p e s m args below meth c Q ls hx hb hr hml hown hts hlocks hK hP hl hQ
  have hl : lv_has ls 3 [(0, .ref o)] := hl
  have hown : s.vm.findClass RM = some m.cls := hown
  refine lv_iconst (v := nI 0) hx hb dM_tip_0 (by decide) ?_
  refine lv_istore_n (lv' := [(1, .int (nI 0)), (0, .ref o)]) hx hb dM_tip_1 rfl hl (by decide) rfl (fun ls hl => ?_)
  refine lv_iconst (v := nI 1) hx hb dM_tip_2 (by decide) ?_
  refine lv_istore_n (lv' := [(2, .int (nI 1)), (1, .int (nI 0)), (0, .ref o)]) hx hb dM_tip_3 rfl hl (by decide) rfl (fun ls hl => ?_)
  have lp_4 : ∀ (n_4 : Nat) (d i x : Nat), (d < n_4) → (i + d = n) → (x < n) → (r_tip Zb Sm d i x = r_tip Zb Sm (n - 1) 1 0) → ∀ (ls : Array Slot), lv_has ls 3 [(0, .ref o), (1, .int (nI x)), (2, .int (nI i))] → W p l e rm_k_tip s m args below meth c s.heap [] 0 0 Q (F0 m 4 ls []) := by
    intro n_4
    induction n_4 with
    | zero => intro d i x hn hd hx9 hg ls hl; exact absurd hn (by omega)
    | succ n_4 ih_4 =>
      intro d i x hn hd hx9 hg ls hl
      refine lv_iload_n hx hb dM_tip_4 rfl (lv_at hl 2 rfl) ?_
      refine lv_aload_n hx hb dM_tip_5 rfl (lv_at hl 0 rfl) ?_
      refine va_get (D := D) (ci := 3) (v := .int (nI n)) (C := RM) (T := TM) (N := 12) hx hb hts iM_tip_M hown hK hP 0 rfl rfl 1 (by decide) (hts (.fieldLink RM 54 "TreeDeskModel" "many" "I") (by decide +kernel)) (fun _ h9 => h9) rfl dM_tip_6 ?_
      refine lv_icmp_ge (tgt := 42) hx hb dM_tip_9 (by decide) (fun c_9 => ?_) (fun c_9 => ?_)
      · skip
        have c_9 : n ≤ i := n_le c_9 (by omega) (by omega)
        have hd0 : d = 0 := by omega
        subst hd0
        refine lv_iload_n hx hb dM_tip_42 rfl (lv_at hl 1 rfl) ?_
        exact ro_iret hQ hx hb hr hlocks dM_tip_43 (by rw [← hg]; rfl)
      · skip
        have c_9 : i < n := n_nle c_9 (by omega) (by omega)
        obtain ⟨d, rfl⟩ : ∃ d' : Nat, d = d' + 1 := ⟨d - 1, by omega⟩
        have hzi := hz9 i
        refine lv_aload_n hx hb dM_tip_12 rfl (lv_at hl 0 rfl) ?_
        refine va_get (D := D) (ci := 3) (v := .ref aZ) (C := RM) (T := TM) (N := 12) hx hb hts iM_tip_M hown hK hP 0 rfl rfl 6 (by decide) (hts (.fieldLink RM 23 "TreeDeskModel" "bad" "[Z") (by decide +kernel)) (fun _ h9 => h9) rfl dM_tip_13 ?_
        refine lv_iload_n hx hb dM_tip_16 rfl (lv_at hl 2 rfl) ?_
        refine ar_zld (j := i) hx hb hK hP 1 2 rfl rfl dM_tip_17 (by omega) (by omega) ?_
        refine tp_i (y := nI (Zb i)) rfl ?_
        refine lv_if_ne (tgt := 34) hx hb dM_tip_18 (by decide) (fun c_18 => ?_) (fun c_18 => ?_)
        · skip
          rw [← nI_0] at c_18
          have c_18 : ¬ (Zb i) = 0 := n_ne c_18
          refine lv_iload_n hx hb dM_tip_34 rfl (lv_at hl 1 rfl) ?_
          refine lv_istore_n (lv' := [(1, .int (nI x)), (0, .ref o), (2, .int (nI i))]) hx hb dM_tip_35 rfl hl (by decide) rfl (fun ls hl => ?_)
          refine lv_iinc (v := nI (i + 1)) (lv' := [(2, .int (nI (i + 1))), (1, .int (nI x)), (0, .ref o)]) hx hb dM_tip_36 hl (k := 2) rfl (nI_add _ 1) (by decide) rfl (fun ls hl => ?_)
          refine lv_goto (tgt := 4) hx hb dM_tip_39 (by decide) ?_
          exact ih_4 d (i + 1) x (by omega) (by omega) (by omega) (by rw [← hg, r_tip, if_neg c_18]) ls (lv_sub hl [2, 1, 0] rfl)
        · skip
          rw [← nI_0] at c_18
          have c_18 : (Zb i) = 0 := n_eq c_18 (by omega) (by omega)
          refine lv_aload_n hx hb dM_tip_21 rfl (lv_at hl 0 rfl) ?_
          refine lv_iload_n hx hb dM_tip_22 rfl (lv_at hl 2 rfl) ?_
          refine lv_iload_n hx hb dM_tip_23 rfl (lv_at hl 1 rfl) ?_
          refine ro_ki (va_runV (As := [.int (nI i), .int (nI x)]) (rest := []) ⟨hx, hb, hml, hown, hts⟩ (k_compare l D cI cJ cZ o mo n aP aH aT aB aZ aS aa ab ac aR Sm i x (by omega) (by omega) (by omega) hS8) (cwV 2 hts gM_tip_M_compare_129 rfl rfl rfl (by decide +kernel) ⟨Nat.le_of_ble_eq_true rfl, Nat.le_of_ble_eq_true rfl⟩) (ro_preV (hP.sub [0, 2] rfl) hK (va_recv hK hP (ci := 3) (q0 := 0) rfl rfl)) rfl rfl hl.1 rfl (lv_room (Nat.le_of_ble_eq_true rfl)) dM_tip_24 ⟨Nat.le_of_ble_eq_true rfl, Nat.le_of_ble_eq_true rfl⟩) ?_
          refine lv_if_le (tgt := 34) hx hb dM_tip_27 (by decide) (fun c_27 => ?_) (fun c_27 => ?_)
          · skip
            refine lv_iload_n hx hb dM_tip_34 rfl (lv_at hl 1 rfl) ?_
            refine lv_istore_n (lv' := [(1, .int (nI x)), (0, .ref o), (2, .int (nI i))]) hx hb dM_tip_35 rfl hl (by decide) rfl (fun ls hl => ?_)
            refine lv_iinc (v := nI (i + 1)) (lv' := [(2, .int (nI (i + 1))), (1, .int (nI x)), (0, .ref o)]) hx hb dM_tip_36 hl (k := 2) rfl (nI_add _ 1) (by decide) rfl (fun ls hl => ?_)
            refine lv_goto (tgt := 4) hx hb dM_tip_39 (by decide) ?_
            exact ih_4 d (i + 1) x (by omega) (by omega) (by omega) (by rw [← hg, r_tip, if_pos c_18, if_pos c_27]) ls (lv_sub hl [2, 1, 0] rfl)
          · skip
            refine lv_iload_n hx hb dM_tip_30 rfl (lv_at hl 2 rfl) ?_
            refine lv_goto (tgt := 35) hx hb dM_tip_31 (by decide) ?_
            refine lv_istore_n (lv' := [(1, .int (nI i)), (0, .ref o), (2, .int (nI i))]) hx hb dM_tip_35 rfl hl (by decide) rfl (fun ls hl => ?_)
            refine lv_iinc (v := nI (i + 1)) (lv' := [(2, .int (nI (i + 1))), (1, .int (nI i)), (0, .ref o)]) hx hb dM_tip_36 hl (k := 2) rfl (nI_add _ 1) (by decide) rfl (fun ls hl => ?_)
            refine lv_goto (tgt := 4) hx hb dM_tip_39 (by decide) ?_
            exact ih_4 d (i + 1) i (by omega) (by omega) (by omega) (by rw [← hg, r_tip, if_pos c_18, if_neg c_27]) ls (lv_sub hl [2, 1, 0] rfl)
  exact lp_4 (n + 1) (n - 1) 1 0 (by omega) (by omega) (by omega) rfl ls (lv_sub hl [2, 1, 0] rfl)

abbrev rm_k_work : Room := { frames := 1, cells := 0, slots := 0, locals := 25 }
set_option maxRecDepth 100000 in
set_option maxHeartbeats 4000000 in
theorem k_work (l : Launch) (D : va_G) (cI cJ cZ : ClassId) (o : Nat) (mo : Nat) (n : Nat) (aP : Nat) (aH : Nat) (aT : Nat) (aB : Nat) (aZ : Nat) (aS : Nat) (aa : Nat) (ab : Nat) (ac : Nat) (aR : Nat) (Sm : Nat → Nat) (j : Nat) (k : Nat) (hn3 : n ≤ 300) (hj : j < n) (hk : k < 4) (hS8 : by8 Sm) : ro_C l yM_work wM_work rm_k_work D vwCl (gT cI cJ cZ) [.ref o, .int (nI j), .int (nI k)] [(o, .inr (3, [.int (nI mo), .int (nI n), .ref aP, .ref aH, .ref aT, .ref aB, .ref aZ, .ref aS, .ref aa, .ref ab, .ref ac, .ref aR])), (aS, .inl (cI, 12000, .inl (nF Sm)))] (some (.long (lN (r_lo Sm (40 * j + 8 * (3 - k)) 8 0)))) := by
  refine ro_of (cc := cM_work) (maxL := 3) (ret := some .long) (by decide) rfl (Nat.le_of_ble_eq_true rfl) ?_
  intro p e s m args below meth c Q ls hx hb hr hml hown hts hlocks hK hP hl hQ
  have hl : lv_has ls 3 [(0, .ref o), (1, .int (nI j)), (2, .int (nI k))] := hl
  have hown : s.vm.findClass RM = some m.cls := hown
  refine lv_aload_n hx hb dM_work_0 rfl (lv_at hl 0 rfl) ?_
  refine lv_iload_n hx hb dM_work_1 rfl (lv_at hl 1 rfl) ?_
  refine ro_ki (va_runV (As := [.int (nI j)]) (rest := []) ⟨hx, hb, hml, hown, hts⟩ (k_isBlock_ok l D cI cJ cZ o mo n aP aH aT aB aZ aS aa ab ac aR j (by omega) (by omega)) (cwV 1 hts gM_work_M_isBlock_102 rfl rfl rfl (by decide +kernel) ⟨Nat.le_of_ble_eq_true rfl, Nat.le_of_ble_eq_true rfl⟩) (ro_preV (hP.sub [0] rfl) hK (va_recv hK hP (ci := 3) (q0 := 0) rfl rfl)) rfl rfl hl.1 rfl (lv_room (Nat.le_of_ble_eq_true rfl)) dM_work_2 ⟨Nat.le_of_ble_eq_true rfl, Nat.le_of_ble_eq_true rfl⟩) ?_
  refine lv_if_eq (tgt := 32) hx hb dM_work_5 (by decide) (fun c_5 => ?_) (fun c_5 => ?_)
  · skip
    rw [← nI_0] at c_5
    have c_5 : 1 = 0 := n_eq c_5 (by omega) (by omega)
    omega
  · skip
    rw [← nI_0] at c_5
    have c_5 : ¬ 1 = 0 := n_ne c_5
    refine lv_iload_n hx hb dM_work_8 rfl (lv_at hl 2 rfl) ?_
    refine lv_if_lt (tgt := 32) hx hb dM_work_9 (by decide) (fun c_9 => ?_) (fun c_9 => ?_)
    · skip
      rw [← nI_0] at c_9
      have c_9 : k < 0 := n_lt c_9 (by omega) (by omega)
      omega
    · skip
      rw [← nI_0] at c_9
      have c_9 : 0 ≤ k := n_nlt c_9 (by omega) (by omega)
      refine lv_iload_n hx hb dM_work_12 rfl (lv_at hl 2 rfl) ?_
      refine lv_iconst (v := nI 3) hx hb dM_work_13 (by decide) ?_
      refine lv_icmp_gt (tgt := 32) hx hb dM_work_14 (by decide) (fun c_14 => ?_) (fun c_14 => ?_)
      · skip
        have c_14 : 3 < k := n_lt c_14 (by omega) (by omega)
        omega
      · skip
        have c_14 : k ≤ 3 := n_nlt c_14 (by omega) (by omega)
        refine lv_aload_n hx hb dM_work_17 rfl (lv_at hl 0 rfl) ?_
        refine va_get (D := D) (ci := 3) (v := .ref aS) (C := RM) (T := TM) (N := 12) hx hb hts iM_work_M hown hK hP 0 rfl rfl 7 (by decide) (hts (.fieldLink RM 27 "TreeDeskModel" "sums" "[I") (by decide +kernel)) (fun _ h9 => h9) rfl dM_work_18 ?_
        refine lv_bipush (v := nI 40) hx hb dM_work_21 (by decide) ?_
        refine lv_iload_n hx hb dM_work_23 rfl (lv_at hl 1 rfl) ?_
        refine lv_imul hx hb dM_work_24 ?_
        refine tp_i (y := nI (40 * j)) (pk_mul _ _) ?_
        refine lv_iload_n hx hb dM_work_25 rfl (lv_at hl 2 rfl) ?_
        refine ro_kl (va_runS (As := [.ref aS, .int (nI (40 * j)), .int (nI k)]) (rest := []) ⟨hx, hb, hml, hown, hts⟩ (k_longOf l D cI cJ cZ aS 12000 Sm (40 * j) k hS8 (by omega) (by omega) (by omega)) (va_cwS 3 hts gM_work_M_longOf_94 rfl rfl rfl (by decide +kernel) ⟨Nat.le_of_ble_eq_true rfl, Nat.le_of_ble_eq_true rfl⟩) (ro_preS (hP.sub [1] rfl) hK) rfl rfl hl.1 rfl (lv_room (Nat.le_of_ble_eq_true rfl)) dM_work_26 ⟨Nat.le_of_ble_eq_true rfl, Nat.le_of_ble_eq_true rfl⟩) ?_
        refine lv_goto (tgt := 33) hx hb dM_work_29 (by decide) ?_
        exact ro_lret hQ hx hb hr hlocks dM_work_33 rfl

abbrev rm_k_work_nob : Room := { frames := 1, cells := 0, slots := 0, locals := 25 }
set_option maxRecDepth 100000 in
set_option maxHeartbeats 4000000 in
theorem k_work_nob (l : Launch) (D : va_G) (cI cJ cZ : ClassId) (o : Nat) (mo : Nat) (n : Nat) (aP : Nat) (aH : Nat) (aT : Nat) (aB : Nat) (aZ : Nat) (aS : Nat) (aa : Nat) (ab : Nat) (ac : Nat) (aR : Nat) (x : Int32) (k : Int32) (hx9 : ¬ (0 ≤ x ∧ x < nI n)) : ro_C l yM_work wM_work rm_k_work_nob D vwCl (gT cI cJ cZ) [.ref o, .int x, .int k] [(o, .inr (3, [.int (nI mo), .int (nI n), .ref aP, .ref aH, .ref aT, .ref aB, .ref aZ, .ref aS, .ref aa, .ref ab, .ref ac, .ref aR]))] (some (.long 0)) := by
  refine ro_of (cc := cM_work) (maxL := 3) (ret := some .long) (by decide) rfl (Nat.le_of_ble_eq_true rfl) ?_
  intro p e s m args below meth c Q ls hx hb hr hml hown hts hlocks hK hP hl hQ
  have hl : lv_has ls 3 [(0, .ref o), (1, .int x), (2, .int k)] := hl
  have hown : s.vm.findClass RM = some m.cls := hown
  refine lv_aload_n hx hb dM_work_0 rfl (lv_at hl 0 rfl) ?_
  refine lv_iload_n hx hb dM_work_1 rfl (lv_at hl 1 rfl) ?_
  refine ro_ki (va_runV (As := [.int x]) (rest := []) ⟨hx, hb, hml, hown, hts⟩ (k_isBlock_no l D cI cJ cZ o mo n aP aH aT aB aZ aS aa ab ac aR x hx9) (cwV 1 hts gM_work_M_isBlock_102 rfl rfl rfl (by decide +kernel) ⟨Nat.le_of_ble_eq_true rfl, Nat.le_of_ble_eq_true rfl⟩) (ro_preV (hP.sub [0] rfl) hK (va_recv hK hP (ci := 3) (q0 := 0) rfl rfl)) rfl rfl hl.1 rfl (lv_room (Nat.le_of_ble_eq_true rfl)) dM_work_2 ⟨Nat.le_of_ble_eq_true rfl, Nat.le_of_ble_eq_true rfl⟩) ?_
  refine lv_if_eq (tgt := 32) hx hb dM_work_5 (by decide) (fun c_5 => ?_) (fun c_5 => ?_)
  · skip
    rw [← nI_0] at c_5
    have c_5 : 0 = 0 := n_eq c_5 (by omega) (by omega)
    refine lv_lconst (v := 0) hx hb dM_work_32 (by decide) ?_
    exact ro_lret hQ hx hb hr hlocks dM_work_33 rfl
  · skip
    rw [← nI_0] at c_5
    have c_5 : ¬ 0 = 0 := n_ne c_5
    omega

abbrev rm_k_work_nok : Room := { frames := 1, cells := 0, slots := 0, locals := 25 }
set_option maxRecDepth 100000 in
set_option maxHeartbeats 4000000 in
theorem k_work_nok (l : Launch) (D : va_G) (cI cJ cZ : ClassId) (o : Nat) (mo : Nat) (n : Nat) (aP : Nat) (aH : Nat) (aT : Nat) (aB : Nat) (aZ : Nat) (aS : Nat) (aa : Nat) (ab : Nat) (ac : Nat) (aR : Nat) (Sm : Nat → Nat) (j : Nat) (k : Int32) (hn9 : n ≤ 300) (hj : j < n) (hk9 : ¬ (0 ≤ k ∧ k ≤ nI 3)) : ro_C l yM_work wM_work rm_k_work_nok D vwCl (gT cI cJ cZ) [.ref o, .int (nI j), .int k] [(o, .inr (3, [.int (nI mo), .int (nI n), .ref aP, .ref aH, .ref aT, .ref aB, .ref aZ, .ref aS, .ref aa, .ref ab, .ref ac, .ref aR])), (aS, .inl (cI, 12000, .inl (nF Sm)))] (some (.long 0)) := by
  refine ro_of (cc := cM_work) (maxL := 3) (ret := some .long) (by decide) rfl (Nat.le_of_ble_eq_true rfl) ?_
  intro p e s m args below meth c Q ls hx hb hr hml hown hts hlocks hK hP hl hQ
  have hl : lv_has ls 3 [(0, .ref o), (1, .int (nI j)), (2, .int k)] := hl
  have hown : s.vm.findClass RM = some m.cls := hown
  refine lv_aload_n hx hb dM_work_0 rfl (lv_at hl 0 rfl) ?_
  refine lv_iload_n hx hb dM_work_1 rfl (lv_at hl 1 rfl) ?_
  refine ro_ki (va_runV (As := [.int (nI j)]) (rest := []) ⟨hx, hb, hml, hown, hts⟩ (k_isBlock_ok l D cI cJ cZ o mo n aP aH aT aB aZ aS aa ab ac aR j (by omega) (by omega)) (cwV 1 hts gM_work_M_isBlock_102 rfl rfl rfl (by decide +kernel) ⟨Nat.le_of_ble_eq_true rfl, Nat.le_of_ble_eq_true rfl⟩) (ro_preV (hP.sub [0] rfl) hK (va_recv hK hP (ci := 3) (q0 := 0) rfl rfl)) rfl rfl hl.1 rfl (lv_room (Nat.le_of_ble_eq_true rfl)) dM_work_2 ⟨Nat.le_of_ble_eq_true rfl, Nat.le_of_ble_eq_true rfl⟩) ?_
  refine lv_if_eq (tgt := 32) hx hb dM_work_5 (by decide) (fun c_5 => ?_) (fun c_5 => ?_)
  · skip
    rw [← nI_0] at c_5
    have c_5 : 1 = 0 := n_eq c_5 (by omega) (by omega)
    omega
  · skip
    rw [← nI_0] at c_5
    have c_5 : ¬ 1 = 0 := n_ne c_5
    refine lv_iload_n hx hb dM_work_8 rfl (lv_at hl 2 rfl) ?_
    refine lv_if_lt (tgt := 32) hx hb dM_work_9 (by decide) (fun c_9 => ?_) (fun c_9 => ?_)
    · skip
      refine lv_lconst (v := 0) hx hb dM_work_32 (by decide) ?_
      exact ro_lret hQ hx hb hr hlocks dM_work_33 rfl
    · skip
      refine lv_iload_n hx hb dM_work_12 rfl (lv_at hl 2 rfl) ?_
      refine lv_iconst (v := nI 3) hx hb dM_work_13 (by decide) ?_
      refine lv_icmp_gt (tgt := 32) hx hb dM_work_14 (by decide) (fun c_14 => ?_) (fun c_14 => ?_)
      · skip
        refine lv_lconst (v := 0) hx hb dM_work_32 (by decide) ?_
        exact ro_lret hQ hx hb hr hlocks dM_work_33 rfl
      · skip
        exact absurd ⟨Int32.not_lt.mp c_9, Int32.not_lt.mp c_14⟩ hk9

abbrev rm_k_fork : Room := { frames := 2, cells := 0, slots := 0, locals := 44 }
set_option maxRecDepth 100000 in
set_option maxHeartbeats 4000000 in
theorem k_fork (l : Launch) (D : va_G) (cI cJ cZ : ClassId) (o : Nat) (mo : Nat) (n : Nat) (aP : Nat) (aH : Nat) (aT : Nat) (aB : Nat) (aZ : Nat) (aS : Nat) (aa : Nat) (ab : Nat) (ac : Nat) (aR : Nat) (P : Nat → Nat) (Hh : Nat → Nat) (x : Nat) (y : Nat) (hn3 : n ≤ 300) (hx9 : x < n) (hy9 : y < n) (hpar : ∀ x : Nat, 0 < x → x < n → P x < x) (hH0 : Hh 0 = 0) (hHs : ∀ x : Nat, 0 < x → x < n → Hh x = Hh (P x) + 1) (hHb : ∀ x : Nat, x < n → Hh x < 300) : ro_C l yM_fork wM_fork rm_k_fork D vwCl (gT cI cJ cZ) [.ref o, .int (nI x), .int (nI y)] [(o, .inr (3, [.int (nI mo), .int (nI n), .ref aP, .ref aH, .ref aT, .ref aB, .ref aZ, .ref aS, .ref aa, .ref ab, .ref ac, .ref aR])), (aP, .inl (cI, 300, .inl (pF P))), (aH, .inl (cI, 300, .inl (nF Hh)))] (some (.int (nI (r_fork P Hh y n x)))) := by
  refine ro_of (cc := cM_fork) (maxL := 4) (ret := some .int) (by decide) rfl (Nat.le_of_ble_eq_true rfl) ?_
  intro p e s m args below meth c Q ls hx hb hr hml hown hts hlocks hK hP hl hQ
  have hl : lv_has ls 4 [(0, .ref o), (1, .int (nI x)), (2, .int (nI y))] := hl
  have hown : s.vm.findClass RM = some m.cls := hown
  refine lv_aload_n hx hb dM_fork_0 rfl (lv_at hl 0 rfl) ?_
  refine lv_iload_n hx hb dM_fork_1 rfl (lv_at hl 1 rfl) ?_
  refine ro_ki (va_runV (As := [.int (nI x)]) (rest := []) ⟨hx, hb, hml, hown, hts⟩ (k_isBlock_ok l D cI cJ cZ o mo n aP aH aT aB aZ aS aa ab ac aR x (by omega) (by omega)) (cwV 1 hts gM_fork_M_isBlock_102 rfl rfl rfl (by decide +kernel) ⟨Nat.le_of_ble_eq_true rfl, Nat.le_of_ble_eq_true rfl⟩) (ro_preV (hP.sub [0] rfl) hK (va_recv hK hP (ci := 3) (q0 := 0) rfl rfl)) rfl rfl hl.1 rfl (lv_room (Nat.le_of_ble_eq_true rfl)) dM_fork_2 ⟨Nat.le_of_ble_eq_true rfl, Nat.le_of_ble_eq_true rfl⟩) ?_
  refine lv_if_eq (tgt := 16) hx hb dM_fork_5 (by decide) (fun c_5 => ?_) (fun c_5 => ?_)
  · skip
    rw [← nI_0] at c_5
    have c_5 : 1 = 0 := n_eq c_5 (by omega) (by omega)
    omega
  · skip
    rw [← nI_0] at c_5
    have c_5 : ¬ 1 = 0 := n_ne c_5
    refine lv_aload_n hx hb dM_fork_8 rfl (lv_at hl 0 rfl) ?_
    refine lv_iload_n hx hb dM_fork_9 rfl (lv_at hl 2 rfl) ?_
    refine ro_ki (va_runV (As := [.int (nI y)]) (rest := []) ⟨hx, hb, hml, hown, hts⟩ (k_isBlock_ok l D cI cJ cZ o mo n aP aH aT aB aZ aS aa ab ac aR y (by omega) (by omega)) (cwV 1 hts gM_fork_M_isBlock_102 rfl rfl rfl (by decide +kernel) ⟨Nat.le_of_ble_eq_true rfl, Nat.le_of_ble_eq_true rfl⟩) (ro_preV (hP.sub [0] rfl) hK (va_recv hK hP (ci := 3) (q0 := 0) rfl rfl)) rfl rfl hl.1 rfl (lv_room (Nat.le_of_ble_eq_true rfl)) dM_fork_10 ⟨Nat.le_of_ble_eq_true rfl, Nat.le_of_ble_eq_true rfl⟩) ?_
    refine lv_if_ne (tgt := 18) hx hb dM_fork_13 (by decide) (fun c_13 => ?_) (fun c_13 => ?_)
    · skip
      rw [← nI_0] at c_13
      have c_13 : ¬ 1 = 0 := n_ne c_13
      refine lv_iload_n hx hb dM_fork_18 rfl (lv_at hl 1 rfl) ?_
      refine lv_istore_n (lv' := [(3, .int (nI x)), (0, .ref o), (1, .int (nI x)), (2, .int (nI y))]) hx hb dM_fork_19 rfl hl (by decide) rfl (fun ls hl => ?_)
      have lp_20 : ∀ (n_20 : Nat) (d u : Nat), (d < n_20) → (u < d) → (u < n) → (r_fork P Hh y d u = r_fork P Hh y n x) → ∀ (ls : Array Slot), lv_has ls 4 [(0, .ref o), (2, .int (nI y)), (3, .int (nI u))] → W p l e rm_k_fork s m args below meth c s.heap [] 0 0 Q (F0 m 20 ls []) := by
        intro n_20
        induction n_20 with
        | zero => intro d u hn hud hu hg ls hl; exact absurd hn (by omega)
        | succ n_20 ih_20 =>
          intro d u hn hud hu hg ls hl
          have hbu := hHb u hu
          obtain ⟨d, rfl⟩ : ∃ d' : Nat, d = d' + 1 := ⟨d - 1, by omega⟩
          refine lv_aload_n hx hb dM_fork_20 rfl (lv_at hl 0 rfl) ?_
          refine lv_iload_n hx hb dM_fork_21 rfl (lv_at hl 1 rfl) ?_
          refine lv_aload_n hx hb dM_fork_22 rfl (lv_at hl 0 rfl) ?_
          refine va_get (D := D) (ci := 3) (v := .ref aH) (C := RM) (T := TM) (N := 12) hx hb hts iM_fork_M hown hK hP 0 rfl rfl 3 (by decide) (hts (.fieldLink RM 13 "TreeDeskModel" "height" "[I") (by decide +kernel)) (fun _ h9 => h9) rfl dM_fork_23 ?_
          refine lv_iload_n hx hb dM_fork_26 rfl (lv_at hl 2 rfl) ?_
          refine ar_ild (j := u) hx hb hK hP 2 0 rfl rfl dM_fork_27 (by omega) (by omega) ?_
          refine tp_i (y := nI (Hh u)) rfl ?_
          refine ro_ki (va_runV (As := [.int (nI y), .int (nI (Hh u))]) (rest := []) ⟨hx, hb, hml, hown, hts⟩ (k_below l D cI cJ cZ o mo n aP aH aT aB aZ aS aa ab ac aR P Hh y (Hh u) (by omega) (by omega) (by omega) hpar hH0 hHs hHb) (cwV 2 hts gM_fork_M_below_108 rfl rfl rfl (by decide +kernel) ⟨Nat.le_of_ble_eq_true rfl, Nat.le_of_ble_eq_true rfl⟩) (ro_preV (hP.sub [0, 1, 2] rfl) hK (va_recv hK hP (ci := 3) (q0 := 0) rfl rfl)) rfl rfl hl.1 rfl (lv_room (Nat.le_of_ble_eq_true rfl)) dM_fork_28 ⟨Nat.le_of_ble_eq_true rfl, Nat.le_of_ble_eq_true rfl⟩) ?_
          refine lv_iload_n hx hb dM_fork_31 rfl (lv_at hl 2 rfl) ?_
          refine lv_icmp_eq (tgt := 45) hx hb dM_fork_32 (by decide) (fun c_32 => ?_) (fun c_32 => ?_)
          · skip
            refine lv_iload_n hx hb dM_fork_45 rfl (lv_at hl 2 rfl) ?_
            exact ro_iret hQ hx hb hr hlocks dM_fork_46 (by rw [← hg, r_fork, if_pos c_32])
          · skip
            have hu0 : 0 < u := by rcases Nat.eq_zero_or_pos u with h0 | h0; (subst h0; exact absurd (by unfold r_bel; rw [hH0, if_pos (by omega), Nat.sub_zero, anc_root hpar hH0 hHs hy9 rfl]) c_32); exact h0
            have hps := hpar u hu0 hu
            refine lv_aload_n hx hb dM_fork_35 rfl (lv_at hl 0 rfl) ?_
            refine va_get (D := D) (ci := 3) (v := .ref aP) (C := RM) (T := TM) (N := 12) hx hb hts iM_fork_M hown hK hP 0 rfl rfl 2 (by decide) (hts (.fieldLink RM 7 "TreeDeskModel" "parent" "[I") (by decide +kernel)) (fun _ h9 => h9) rfl dM_fork_36 ?_
            refine lv_iload_n hx hb dM_fork_39 rfl (lv_at hl 2 rfl) ?_
            refine ar_ild (j := u) hx hb hK hP 1 0 rfl rfl dM_fork_40 (by omega) (by omega) ?_
            refine tp_i (y := nI (P u)) (pF_s hu0) ?_
            refine lv_istore_n (lv' := [(3, .int (nI (P u))), (0, .ref o), (2, .int (nI y))]) hx hb dM_fork_41 rfl hl (by decide) rfl (fun ls hl => ?_)
            refine lv_goto (tgt := 20) hx hb dM_fork_42 (by decide) ?_
            exact ih_20 d (P u) (by omega) (by omega) (by omega) (by rw [← hg, r_fork, if_neg c_32]) ls (lv_sub hl [1, 2, 0] rfl)
      exact lp_20 (n + 1) n x (by omega) hx9 hx9 rfl ls (lv_sub hl [1, 3, 0] rfl)
    · skip
      rw [← nI_0] at c_13
      have c_13 : 1 = 0 := n_eq c_13 (by omega) (by omega)
      omega

abbrev rm_k_fork_noa : Room := { frames := 2, cells := 0, slots := 0, locals := 44 }
set_option maxRecDepth 100000 in
set_option maxHeartbeats 4000000 in
theorem k_fork_noa (l : Launch) (D : va_G) (cI cJ cZ : ClassId) (o : Nat) (mo : Nat) (n : Nat) (aP : Nat) (aH : Nat) (aT : Nat) (aB : Nat) (aZ : Nat) (aS : Nat) (aa : Nat) (ab : Nat) (ac : Nat) (aR : Nat) (x : Int32) (y : Int32) (hx9 : ¬ (0 ≤ x ∧ x < nI n)) : ro_C l yM_fork wM_fork rm_k_fork_noa D vwCl (gT cI cJ cZ) [.ref o, .int x, .int y] [(o, .inr (3, [.int (nI mo), .int (nI n), .ref aP, .ref aH, .ref aT, .ref aB, .ref aZ, .ref aS, .ref aa, .ref ab, .ref ac, .ref aR]))] (some (.int (-1))) := by
  refine ro_of (cc := cM_fork) (maxL := 4) (ret := some .int) (by decide) rfl (Nat.le_of_ble_eq_true rfl) ?_
  intro p e s m args below meth c Q ls hx hb hr hml hown hts hlocks hK hP hl hQ
  have hl : lv_has ls 4 [(0, .ref o), (1, .int x), (2, .int y)] := hl
  have hown : s.vm.findClass RM = some m.cls := hown
  refine lv_aload_n hx hb dM_fork_0 rfl (lv_at hl 0 rfl) ?_
  refine lv_iload_n hx hb dM_fork_1 rfl (lv_at hl 1 rfl) ?_
  refine ro_ki (va_runV (As := [.int x]) (rest := []) ⟨hx, hb, hml, hown, hts⟩ (k_isBlock_no l D cI cJ cZ o mo n aP aH aT aB aZ aS aa ab ac aR x hx9) (cwV 1 hts gM_fork_M_isBlock_102 rfl rfl rfl (by decide +kernel) ⟨Nat.le_of_ble_eq_true rfl, Nat.le_of_ble_eq_true rfl⟩) (ro_preV (hP.sub [0] rfl) hK (va_recv hK hP (ci := 3) (q0 := 0) rfl rfl)) rfl rfl hl.1 rfl (lv_room (Nat.le_of_ble_eq_true rfl)) dM_fork_2 ⟨Nat.le_of_ble_eq_true rfl, Nat.le_of_ble_eq_true rfl⟩) ?_
  refine lv_if_eq (tgt := 16) hx hb dM_fork_5 (by decide) (fun c_5 => ?_) (fun c_5 => ?_)
  · skip
    rw [← nI_0] at c_5
    have c_5 : 0 = 0 := n_eq c_5 (by omega) (by omega)
    refine lv_iconst (v := (-1)) hx hb dM_fork_16 (by decide) ?_
    exact ro_iret hQ hx hb hr hlocks dM_fork_17 rfl
  · skip
    rw [← nI_0] at c_5
    have c_5 : ¬ 0 = 0 := n_ne c_5
    omega

abbrev rm_k_fork_nob : Room := { frames := 2, cells := 0, slots := 0, locals := 44 }
set_option maxRecDepth 100000 in
set_option maxHeartbeats 4000000 in
theorem k_fork_nob (l : Launch) (D : va_G) (cI cJ cZ : ClassId) (o : Nat) (mo : Nat) (n : Nat) (aP : Nat) (aH : Nat) (aT : Nat) (aB : Nat) (aZ : Nat) (aS : Nat) (aa : Nat) (ab : Nat) (ac : Nat) (aR : Nat) (x : Nat) (y : Int32) (hn9 : n ≤ 300) (hx8 : x < n) (hx9 : ¬ (0 ≤ y ∧ y < nI n)) : ro_C l yM_fork wM_fork rm_k_fork_nob D vwCl (gT cI cJ cZ) [.ref o, .int (nI x), .int y] [(o, .inr (3, [.int (nI mo), .int (nI n), .ref aP, .ref aH, .ref aT, .ref aB, .ref aZ, .ref aS, .ref aa, .ref ab, .ref ac, .ref aR]))] (some (.int (-1))) := by
  refine ro_of (cc := cM_fork) (maxL := 4) (ret := some .int) (by decide) rfl (Nat.le_of_ble_eq_true rfl) ?_
  intro p e s m args below meth c Q ls hx hb hr hml hown hts hlocks hK hP hl hQ
  have hl : lv_has ls 4 [(0, .ref o), (1, .int (nI x)), (2, .int y)] := hl
  have hown : s.vm.findClass RM = some m.cls := hown
  refine lv_aload_n hx hb dM_fork_0 rfl (lv_at hl 0 rfl) ?_
  refine lv_iload_n hx hb dM_fork_1 rfl (lv_at hl 1 rfl) ?_
  refine ro_ki (va_runV (As := [.int (nI x)]) (rest := []) ⟨hx, hb, hml, hown, hts⟩ (k_isBlock_ok l D cI cJ cZ o mo n aP aH aT aB aZ aS aa ab ac aR x (by omega) (by omega)) (cwV 1 hts gM_fork_M_isBlock_102 rfl rfl rfl (by decide +kernel) ⟨Nat.le_of_ble_eq_true rfl, Nat.le_of_ble_eq_true rfl⟩) (ro_preV (hP.sub [0] rfl) hK (va_recv hK hP (ci := 3) (q0 := 0) rfl rfl)) rfl rfl hl.1 rfl (lv_room (Nat.le_of_ble_eq_true rfl)) dM_fork_2 ⟨Nat.le_of_ble_eq_true rfl, Nat.le_of_ble_eq_true rfl⟩) ?_
  refine lv_if_eq (tgt := 16) hx hb dM_fork_5 (by decide) (fun c_5 => ?_) (fun c_5 => ?_)
  · skip
    rw [← nI_0] at c_5
    have c_5 : 1 = 0 := n_eq c_5 (by omega) (by omega)
    omega
  · skip
    rw [← nI_0] at c_5
    have c_5 : ¬ 1 = 0 := n_ne c_5
    refine lv_aload_n hx hb dM_fork_8 rfl (lv_at hl 0 rfl) ?_
    refine lv_iload_n hx hb dM_fork_9 rfl (lv_at hl 2 rfl) ?_
    refine ro_ki (va_runV (As := [.int y]) (rest := []) ⟨hx, hb, hml, hown, hts⟩ (k_isBlock_no l D cI cJ cZ o mo n aP aH aT aB aZ aS aa ab ac aR y hx9) (cwV 1 hts gM_fork_M_isBlock_102 rfl rfl rfl (by decide +kernel) ⟨Nat.le_of_ble_eq_true rfl, Nat.le_of_ble_eq_true rfl⟩) (ro_preV (hP.sub [0] rfl) hK (va_recv hK hP (ci := 3) (q0 := 0) rfl rfl)) rfl rfl hl.1 rfl (lv_room (Nat.le_of_ble_eq_true rfl)) dM_fork_10 ⟨Nat.le_of_ble_eq_true rfl, Nat.le_of_ble_eq_true rfl⟩) ?_
    refine lv_if_ne (tgt := 18) hx hb dM_fork_13 (by decide) (fun c_13 => ?_) (fun c_13 => ?_)
    · skip
      rw [← nI_0] at c_13
      have c_13 : ¬ 0 = 0 := n_ne c_13
      omega
    · skip
      rw [← nI_0] at c_13
      have c_13 : 0 = 0 := n_eq c_13 (by omega) (by omega)
      refine lv_iconst (v := (-1)) hx hb dM_fork_16 (by decide) ?_
      exact ro_iret hQ hx hb hr hlocks dM_fork_17 rfl

abbrev rm_k_row : Room := { frames := 2, cells := 0, slots := 0, locals := 44 }
set_option maxRecDepth 100000 in
set_option maxHeartbeats 4000000 in
theorem k_row (l : Launch) (D : va_G) (cI cJ cZ : ClassId) (o : Nat) (mo : Nat) (n : Nat) (aP : Nat) (aH : Nat) (aT : Nat) (aB : Nat) (aZ : Nat) (aS : Nat) (aa : Nat) (ab : Nat) (ac : Nat) (aR : Nat) (P : Nat → Nat) (Hh : Nat → Nat) (j : Nat) (k : Nat) (hn3 : n ≤ 300) (hj : j < n) (hk : k < 2 ^ 31) (hpar : ∀ x : Nat, 0 < x → x < n → P x < x) (hH0 : Hh 0 = 0) (hHs : ∀ x : Nat, 0 < x → x < n → Hh x = Hh (P x) + 1) (hHb : ∀ x : Nat, x < n → Hh x < 300) : ro_C l yM_row wM_row rm_k_row D vwCl (gT cI cJ cZ) [.ref o, .int (nI j), .int (nI k)] [(o, .inr (3, [.int (nI mo), .int (nI n), .ref aP, .ref aH, .ref aT, .ref aB, .ref aZ, .ref aS, .ref aa, .ref ab, .ref ac, .ref aR])), (aP, .inl (cI, 300, .inl (pF P))), (aH, .inl (cI, 300, .inl (nF Hh)))] (some (.int (m_rowR P Hh j (r_row k (Hh j) 1 0)))) := by
  refine ro_of (cc := cM_row) (maxL := 6) (ret := some .int) (by decide) rfl (Nat.le_of_ble_eq_true rfl) ?_
  intro p e s m args below meth c Q ls hx hb hr hml hown hts hlocks hK hP hl hQ
  have hl : lv_has ls 6 [(0, .ref o), (1, .int (nI j)), (2, .int (nI k))] := hl
  have hown : s.vm.findClass RM = some m.cls := hown
  have hbj := hHb j hj
  refine lv_aload_n hx hb dM_row_0 rfl (lv_at hl 0 rfl) ?_
  refine lv_iload_n hx hb dM_row_1 rfl (lv_at hl 1 rfl) ?_
  refine ro_ki (va_runV (As := [.int (nI j)]) (rest := []) ⟨hx, hb, hml, hown, hts⟩ (k_isBlock_ok l D cI cJ cZ o mo n aP aH aT aB aZ aS aa ab ac aR j (by omega) (by omega)) (cwV 1 hts gM_row_M_isBlock_102 rfl rfl rfl (by decide +kernel) ⟨Nat.le_of_ble_eq_true rfl, Nat.le_of_ble_eq_true rfl⟩) (ro_preV (hP.sub [0] rfl) hK (va_recv hK hP (ci := 3) (q0 := 0) rfl rfl)) rfl rfl hl.1 rfl (lv_room (Nat.le_of_ble_eq_true rfl)) dM_row_2 ⟨Nat.le_of_ble_eq_true rfl, Nat.le_of_ble_eq_true rfl⟩) ?_
  refine lv_if_eq (tgt := 12) hx hb dM_row_5 (by decide) (fun c_5 => ?_) (fun c_5 => ?_)
  · skip
    rw [← nI_0] at c_5
    have c_5 : 1 = 0 := n_eq c_5 (by omega) (by omega)
    omega
  · skip
    rw [← nI_0] at c_5
    have c_5 : ¬ 1 = 0 := n_ne c_5
    refine lv_iload_n hx hb dM_row_8 rfl (lv_at hl 2 rfl) ?_
    refine lv_if_ge (tgt := 14) hx hb dM_row_9 (by decide) (fun c_9 => ?_) (fun c_9 => ?_)
    · skip
      rw [← nI_0] at c_9
      have c_9 : 0 ≤ k := n_le c_9 (by omega) (by omega)
      refine lv_aload_n hx hb dM_row_14 rfl (lv_at hl 0 rfl) ?_
      refine va_get (D := D) (ci := 3) (v := .ref aH) (C := RM) (T := TM) (N := 12) hx hb hts iM_row_M hown hK hP 0 rfl rfl 3 (by decide) (hts (.fieldLink RM 13 "TreeDeskModel" "height" "[I") (by decide +kernel)) (fun _ h9 => h9) rfl dM_row_15 ?_
      refine lv_iload_n hx hb dM_row_18 rfl (lv_at hl 1 rfl) ?_
      refine ar_ild (j := j) hx hb hK hP 2 0 rfl rfl dM_row_19 (by omega) (by omega) ?_
      refine tp_i (y := nI (Hh j)) rfl ?_
      refine lv_istore_n (lv' := [(3, .int (nI (Hh j))), (0, .ref o), (1, .int (nI j)), (2, .int (nI k))]) hx hb dM_row_20 rfl hl (by decide) rfl (fun ls hl => ?_)
      refine lv_iconst (v := nI 1) hx hb dM_row_21 (by decide) ?_
      refine lv_istore (lv' := [(4, .int (nI 1)), (3, .int (nI (Hh j))), (0, .ref o), (1, .int (nI j)), (2, .int (nI k))]) hx hb dM_row_22 hl (by decide) rfl (fun ls hl => ?_)
      refine lv_iconst (v := nI 0) hx hb dM_row_24 (by decide) ?_
      refine lv_istore (lv' := [(5, .int (nI 0)), (4, .int (nI 1)), (3, .int (nI (Hh j))), (0, .ref o), (1, .int (nI j)), (2, .int (nI k))]) hx hb dM_row_25 hl (by decide) rfl (fun ls hl => ?_)
      have lp_27 : ∀ (n_27 : Nat) (d hh sp i : Nat), (d < n_27) → (i + d = k) → (hh < 300) → (hh ≤ Hh j) → (0 < hh → sp < 300) → (r_row d hh sp i = r_row k (Hh j) 1 0) → ∀ (ls : Array Slot), lv_has ls 6 [(0, .ref o), (1, .int (nI j)), (2, .int (nI k)), (3, .int (nI hh)), (4, .int (nI sp)), (5, .int (nI i))] → W p l e rm_k_row s m args below meth c s.heap [] 0 0 Q (F0 m 27 ls []) := by
        intro n_27
        induction n_27 with
        | zero => intro d hh sp i hn hd hh3 hhj hsp hg ls hl; exact absurd hn (by omega)
        | succ n_27 ih_27 =>
          intro d hh sp i hn hd hh3 hhj hsp hg ls hl
          refine lv_iload hx hb dM_row_27 (lv_at hl 5 rfl) ?_
          refine lv_iload_n hx hb dM_row_29 rfl (lv_at hl 2 rfl) ?_
          refine lv_icmp_ge (tgt := 78) hx hb dM_row_30 (by decide) (fun c_30 => ?_) (fun c_30 => ?_)
          · skip
            have c_30 : k ≤ i := n_le c_30 (by omega) (by omega)
            have hd0 : d = 0 := by omega
            subst hd0
            refine lv_aload_n hx hb dM_row_78 rfl (lv_at hl 0 rfl) ?_
            refine lv_iload_n hx hb dM_row_79 rfl (lv_at hl 1 rfl) ?_
            refine lv_iload_n hx hb dM_row_80 rfl (lv_at hl 3 rfl) ?_
            refine ro_ki (va_runV (As := [.int (nI j), .int (nI hh)]) (rest := []) ⟨hx, hb, hml, hown, hts⟩ (k_below l D cI cJ cZ o mo n aP aH aT aB aZ aS aa ab ac aR P Hh j hh (by omega) (by omega) (by omega) hpar hH0 hHs hHb) (cwV 2 hts gM_row_M_below_108 rfl rfl rfl (by decide +kernel) ⟨Nat.le_of_ble_eq_true rfl, Nat.le_of_ble_eq_true rfl⟩) (ro_preV (hP.sub [0, 1, 2] rfl) hK (va_recv hK hP (ci := 3) (q0 := 0) rfl rfl)) rfl rfl hl.1 rfl (lv_room (Nat.le_of_ble_eq_true rfl)) dM_row_81 ⟨Nat.le_of_ble_eq_true rfl, Nat.le_of_ble_eq_true rfl⟩) ?_
            exact ro_iret hQ hx hb hr hlocks dM_row_84 (by rw [← hg]; show r_bel P Hh j hh = nI _; unfold r_bel; rw [if_pos hhj])
          · skip
            have c_30 : i < k := n_nle c_30 (by omega) (by omega)
            obtain ⟨d, rfl⟩ : ∃ d' : Nat, d = d' + 1 := ⟨d - 1, by omega⟩
            refine lv_iload_n hx hb dM_row_33 rfl (lv_at hl 3 rfl) ?_
            refine lv_if_ne (tgt := 39) hx hb dM_row_34 (by decide) (fun c_34 => ?_) (fun c_34 => ?_)
            · skip
              rw [← nI_0] at c_34
              have c_34 : ¬ hh = 0 := n_ne c_34
              have hsp := hsp (by omega)
              refine lv_iload hx hb dM_row_39 (lv_at hl 5 rfl) ?_
              refine lv_bipush (v := nI 9) hx hb dM_row_41 (by decide) ?_
              refine lv_icmp_ge (tgt := 50) hx hb dM_row_43 (by decide) (fun c_43 => ?_) (fun c_43 => ?_)
              · skip
                have c_43 : 9 ≤ i := n_le c_43 (by omega) (by omega)
                refine lv_iconst (v := nI 2) hx hb dM_row_50 (by decide) ?_
                refine lv_iload hx hb dM_row_51 (lv_at hl 4 rfl) ?_
                refine lv_imul hx hb dM_row_53 ?_
                refine tp_i (y := nI (2 * sp)) (pk_mul _ _) ?_
                refine lv_istore (lv' := [(4, .int (nI (2 * sp))), (0, .ref o), (1, .int (nI j)), (2, .int (nI k)), (3, .int (nI hh)), (5, .int (nI i))]) hx hb dM_row_54 hl (by decide) rfl (fun ls hl => ?_)
                refine lv_iload_n hx hb dM_row_56 rfl (lv_at hl 4 rfl) ?_
                refine lv_iload hx hb dM_row_57 (lv_at hl 0 rfl) ?_
                refine lv_isub hx hb dM_row_59 ?_
                refine lv_if_ge (tgt := 67) hx hb dM_row_60 (by decide) (fun c_60 => ?_) (fun c_60 => ?_)
                · skip
                  have c_60 : 2 * sp ≤ hh := n_sge c_60 (by omega) (by omega)
                  refine lv_iload_n hx hb dM_row_67 rfl (lv_at hl 4 rfl) ?_
                  refine lv_iload hx hb dM_row_68 (lv_at hl 0 rfl) ?_
                  refine lv_isub hx hb dM_row_70 ?_
                  refine tp_i (y := nI (hh - (2 * sp))) (pk_sub (by omega)) ?_
                  refine lv_istore_n (lv' := [(3, .int (nI (hh - (2 * sp)))), (4, .int (nI (2 * sp))), (0, .ref o), (1, .int (nI j)), (2, .int (nI k)), (5, .int (nI i))]) hx hb dM_row_71 rfl hl (by decide) rfl (fun ls hl => ?_)
                  refine lv_iinc (v := nI (i + 1)) (lv' := [(5, .int (nI (i + 1))), (3, .int (nI (hh - (2 * sp)))), (4, .int (nI (2 * sp))), (0, .ref o), (1, .int (nI j)), (2, .int (nI k))]) hx hb dM_row_72 hl (k := 5) rfl (nI_add _ 1) (by decide) rfl (fun ls hl => ?_)
                  refine lv_goto (tgt := 27) hx hb dM_row_75 (by decide) ?_
                  exact ih_27 d (hh - (2 * sp)) (2 * sp) (i + 1) (by omega) (by omega) (by omega) (by omega) (by omega) (by rw [← hg, r_row, if_neg c_34, if_neg (by omega)]) ls (lv_sub hl [3, 4, 5, 1, 2, 0] rfl)
                · skip
                  have c_60 : hh < 2 * sp := n_snge c_60 (by omega) (by omega)
                  refine lv_iconst (v := nI 0) hx hb dM_row_63 (by decide) ?_
                  refine tp_i (y := nI (hh - (2 * sp))) (congrArg nI (show 0 = hh - (2 * sp) by omega)) ?_
                  refine lv_goto (tgt := 71) hx hb dM_row_64 (by decide) ?_
                  refine lv_istore_n (lv' := [(3, .int (nI (hh - (2 * sp)))), (4, .int (nI (2 * sp))), (0, .ref o), (1, .int (nI j)), (2, .int (nI k)), (5, .int (nI i))]) hx hb dM_row_71 rfl hl (by decide) rfl (fun ls hl => ?_)
                  refine lv_iinc (v := nI (i + 1)) (lv' := [(5, .int (nI (i + 1))), (3, .int (nI (hh - (2 * sp)))), (4, .int (nI (2 * sp))), (0, .ref o), (1, .int (nI j)), (2, .int (nI k))]) hx hb dM_row_72 hl (k := 5) rfl (nI_add _ 1) (by decide) rfl (fun ls hl => ?_)
                  refine lv_goto (tgt := 27) hx hb dM_row_75 (by decide) ?_
                  exact ih_27 d (hh - (2 * sp)) (2 * sp) (i + 1) (by omega) (by omega) (by omega) (by omega) (by omega) (by rw [← hg, r_row, if_neg c_34, if_neg (by omega)]) ls (lv_sub hl [3, 4, 5, 1, 2, 0] rfl)
              · skip
                have c_43 : i < 9 := n_nle c_43 (by omega) (by omega)
                refine lv_iconst (v := nI 1) hx hb dM_row_46 (by decide) ?_
                refine lv_goto (tgt := 54) hx hb dM_row_47 (by decide) ?_
                refine lv_istore (lv' := [(4, .int (nI 1)), (0, .ref o), (1, .int (nI j)), (2, .int (nI k)), (3, .int (nI hh)), (5, .int (nI i))]) hx hb dM_row_54 hl (by decide) rfl (fun ls hl => ?_)
                refine lv_iload_n hx hb dM_row_56 rfl (lv_at hl 4 rfl) ?_
                refine lv_iload hx hb dM_row_57 (lv_at hl 0 rfl) ?_
                refine lv_isub hx hb dM_row_59 ?_
                refine lv_if_ge (tgt := 67) hx hb dM_row_60 (by decide) (fun c_60 => ?_) (fun c_60 => ?_)
                · skip
                  have c_60 : 1 ≤ hh := n_sge c_60 (by omega) (by omega)
                  refine lv_iload_n hx hb dM_row_67 rfl (lv_at hl 4 rfl) ?_
                  refine lv_iload hx hb dM_row_68 (lv_at hl 0 rfl) ?_
                  refine lv_isub hx hb dM_row_70 ?_
                  refine tp_i (y := nI (hh - 1)) (pk_sub (by omega)) ?_
                  refine lv_istore_n (lv' := [(3, .int (nI (hh - 1))), (4, .int (nI 1)), (0, .ref o), (1, .int (nI j)), (2, .int (nI k)), (5, .int (nI i))]) hx hb dM_row_71 rfl hl (by decide) rfl (fun ls hl => ?_)
                  refine lv_iinc (v := nI (i + 1)) (lv' := [(5, .int (nI (i + 1))), (3, .int (nI (hh - 1))), (4, .int (nI 1)), (0, .ref o), (1, .int (nI j)), (2, .int (nI k))]) hx hb dM_row_72 hl (k := 5) rfl (nI_add _ 1) (by decide) rfl (fun ls hl => ?_)
                  refine lv_goto (tgt := 27) hx hb dM_row_75 (by decide) ?_
                  exact ih_27 d (hh - 1) 1 (i + 1) (by omega) (by omega) (by omega) (by omega) (by omega) (by rw [← hg, r_row, if_neg c_34, if_pos (by omega)]) ls (lv_sub hl [3, 4, 5, 1, 2, 0] rfl)
                · skip
                  have c_60 : hh < 1 := n_snge c_60 (by omega) (by omega)
                  refine lv_iconst (v := nI 0) hx hb dM_row_63 (by decide) ?_
                  refine tp_i (y := nI (hh - 1)) (congrArg nI (show 0 = hh - 1 by omega)) ?_
                  refine lv_goto (tgt := 71) hx hb dM_row_64 (by decide) ?_
                  refine lv_istore_n (lv' := [(3, .int (nI (hh - 1))), (4, .int (nI 1)), (0, .ref o), (1, .int (nI j)), (2, .int (nI k)), (5, .int (nI i))]) hx hb dM_row_71 rfl hl (by decide) rfl (fun ls hl => ?_)
                  refine lv_iinc (v := nI (i + 1)) (lv' := [(5, .int (nI (i + 1))), (3, .int (nI (hh - 1))), (4, .int (nI 1)), (0, .ref o), (1, .int (nI j)), (2, .int (nI k))]) hx hb dM_row_72 hl (k := 5) rfl (nI_add _ 1) (by decide) rfl (fun ls hl => ?_)
                  refine lv_goto (tgt := 27) hx hb dM_row_75 (by decide) ?_
                  exact ih_27 d (hh - 1) 1 (i + 1) (by omega) (by omega) (by omega) (by omega) (by omega) (by rw [← hg, r_row, if_neg c_34, if_pos (by omega)]) ls (lv_sub hl [3, 4, 5, 1, 2, 0] rfl)
            · skip
              rw [← nI_0] at c_34
              have c_34 : hh = 0 := n_eq c_34 (by omega) (by omega)
              refine lv_iconst (v := (-1)) hx hb dM_row_37 (by decide) ?_
              exact ro_iret hQ hx hb hr hlocks dM_row_38 (by rw [← hg, r_row, if_pos c_34]; rfl)
      exact lp_27 (k + 1) k (Hh j) 1 0 (by omega) (by omega) (by omega) (by omega) (by omega) rfl ls (lv_sub hl [3, 4, 5, 2, 1, 0] rfl)
    · skip
      rw [← nI_0] at c_9
      have c_9 : k < 0 := n_nle c_9 (by omega) (by omega)
      omega

abbrev rm_k_row_nob : Room := { frames := 2, cells := 0, slots := 0, locals := 44 }
set_option maxRecDepth 100000 in
set_option maxHeartbeats 4000000 in
theorem k_row_nob (l : Launch) (D : va_G) (cI cJ cZ : ClassId) (o : Nat) (mo : Nat) (n : Nat) (aP : Nat) (aH : Nat) (aT : Nat) (aB : Nat) (aZ : Nat) (aS : Nat) (aa : Nat) (ab : Nat) (ac : Nat) (aR : Nat) (x : Int32) (h : Int32) (hx9 : ¬ (0 ≤ x ∧ x < nI n)) : ro_C l yM_row wM_row rm_k_row_nob D vwCl (gT cI cJ cZ) [.ref o, .int x, .int h] [(o, .inr (3, [.int (nI mo), .int (nI n), .ref aP, .ref aH, .ref aT, .ref aB, .ref aZ, .ref aS, .ref aa, .ref ab, .ref ac, .ref aR]))] (some (.int (-1))) := by
  refine ro_of (cc := cM_row) (maxL := 6) (ret := some .int) (by decide) rfl (Nat.le_of_ble_eq_true rfl) ?_
  intro p e s m args below meth c Q ls hx hb hr hml hown hts hlocks hK hP hl hQ
  have hl : lv_has ls 6 [(0, .ref o), (1, .int x), (2, .int h)] := hl
  have hown : s.vm.findClass RM = some m.cls := hown
  refine lv_aload_n hx hb dM_row_0 rfl (lv_at hl 0 rfl) ?_
  refine lv_iload_n hx hb dM_row_1 rfl (lv_at hl 1 rfl) ?_
  refine ro_ki (va_runV (As := [.int x]) (rest := []) ⟨hx, hb, hml, hown, hts⟩ (k_isBlock_no l D cI cJ cZ o mo n aP aH aT aB aZ aS aa ab ac aR x hx9) (cwV 1 hts gM_row_M_isBlock_102 rfl rfl rfl (by decide +kernel) ⟨Nat.le_of_ble_eq_true rfl, Nat.le_of_ble_eq_true rfl⟩) (ro_preV (hP.sub [0] rfl) hK (va_recv hK hP (ci := 3) (q0 := 0) rfl rfl)) rfl rfl hl.1 rfl (lv_room (Nat.le_of_ble_eq_true rfl)) dM_row_2 ⟨Nat.le_of_ble_eq_true rfl, Nat.le_of_ble_eq_true rfl⟩) ?_
  refine lv_if_eq (tgt := 12) hx hb dM_row_5 (by decide) (fun c_5 => ?_) (fun c_5 => ?_)
  · skip
    rw [← nI_0] at c_5
    have c_5 : 0 = 0 := n_eq c_5 (by omega) (by omega)
    refine lv_iconst (v := (-1)) hx hb dM_row_12 (by decide) ?_
    exact ro_iret hQ hx hb hr hlocks dM_row_13 rfl
  · skip
    rw [← nI_0] at c_5
    have c_5 : ¬ 0 = 0 := n_ne c_5
    omega

abbrev rm_k_row_neg : Room := { frames := 2, cells := 0, slots := 0, locals := 44 }
set_option maxRecDepth 100000 in
set_option maxHeartbeats 4000000 in
theorem k_row_neg (l : Launch) (D : va_G) (cI cJ cZ : ClassId) (o : Nat) (mo : Nat) (n : Nat) (aP : Nat) (aH : Nat) (aT : Nat) (aB : Nat) (aZ : Nat) (aS : Nat) (aa : Nat) (ab : Nat) (ac : Nat) (aR : Nat) (j : Nat) (h : Int32) (hn3 : n ≤ 300) (hj : j < n) (hh9 : h < 0) : ro_C l yM_row wM_row rm_k_row_neg D vwCl (gT cI cJ cZ) [.ref o, .int (nI j), .int h] [(o, .inr (3, [.int (nI mo), .int (nI n), .ref aP, .ref aH, .ref aT, .ref aB, .ref aZ, .ref aS, .ref aa, .ref ab, .ref ac, .ref aR]))] (some (.int (-1))) := by
  refine ro_of (cc := cM_row) (maxL := 6) (ret := some .int) (by decide) rfl (Nat.le_of_ble_eq_true rfl) ?_
  intro p e s m args below meth c Q ls hx hb hr hml hown hts hlocks hK hP hl hQ
  have hl : lv_has ls 6 [(0, .ref o), (1, .int (nI j)), (2, .int h)] := hl
  have hown : s.vm.findClass RM = some m.cls := hown
  refine lv_aload_n hx hb dM_row_0 rfl (lv_at hl 0 rfl) ?_
  refine lv_iload_n hx hb dM_row_1 rfl (lv_at hl 1 rfl) ?_
  refine ro_ki (va_runV (As := [.int (nI j)]) (rest := []) ⟨hx, hb, hml, hown, hts⟩ (k_isBlock_ok l D cI cJ cZ o mo n aP aH aT aB aZ aS aa ab ac aR j (by omega) (by omega)) (cwV 1 hts gM_row_M_isBlock_102 rfl rfl rfl (by decide +kernel) ⟨Nat.le_of_ble_eq_true rfl, Nat.le_of_ble_eq_true rfl⟩) (ro_preV (hP.sub [0] rfl) hK (va_recv hK hP (ci := 3) (q0 := 0) rfl rfl)) rfl rfl hl.1 rfl (lv_room (Nat.le_of_ble_eq_true rfl)) dM_row_2 ⟨Nat.le_of_ble_eq_true rfl, Nat.le_of_ble_eq_true rfl⟩) ?_
  refine lv_if_eq (tgt := 12) hx hb dM_row_5 (by decide) (fun c_5 => ?_) (fun c_5 => ?_)
  · skip
    rw [← nI_0] at c_5
    have c_5 : 1 = 0 := n_eq c_5 (by omega) (by omega)
    omega
  · skip
    rw [← nI_0] at c_5
    have c_5 : ¬ 1 = 0 := n_ne c_5
    refine lv_iload_n hx hb dM_row_8 rfl (lv_at hl 2 rfl) ?_
    refine lv_if_ge (tgt := 14) hx hb dM_row_9 (by decide) (fun c_9 => ?_) (fun c_9 => ?_)
    · skip
      exact absurd hh9 (Int32.not_lt.mpr c_9)
    · skip
      refine lv_iconst (v := (-1)) hx hb dM_row_12 (by decide) ?_
      exact ro_iret hQ hx hb hr hlocks dM_row_13 rfl

abbrev rm_k_look_0 : Room := { frames := 1, cells := 0, slots := 0, locals := 21 }
set_option maxRecDepth 100000 in
set_option maxHeartbeats 4000000 in
theorem k_look_0 (l : Launch) (D : va_G) (cI cJ cZ : ClassId) (o : Nat) (mo : Nat) (n : Nat) (aP : Nat) (aH : Nat) (aT : Nat) (aB : Nat) (aZ : Nat) (aS : Nat) (aa : Nat) (ab : Nat) (ac : Nat) (aR : Nat) (P : Nat → Nat) (j : Nat) (hn3 : n ≤ 300) (hj : j < n) : ro_C l yM_look wM_look rm_k_look_0 D vwCl (gT cI cJ cZ) [.ref o, .int (nI j), .int (nI 0)] [(o, .inr (3, [.int (nI mo), .int (nI n), .ref aP, .ref aH, .ref aT, .ref aB, .ref aZ, .ref aS, .ref aa, .ref ab, .ref ac, .ref aR])), (aP, .inl (cI, 300, .inl (pF P)))] (some (.long ((pF P j).toInt64))) := by
  refine ro_of (cc := cM_look) (maxL := 5) (ret := some .long) (by decide) rfl (Nat.le_of_ble_eq_true rfl) ?_
  intro p e s m args below meth c Q ls hx hb hr hml hown hts hlocks hK hP hl hQ
  have hl : lv_has ls 5 [(0, .ref o), (1, .int (nI j)), (2, .int (nI 0))] := hl
  have hown : s.vm.findClass RM = some m.cls := hown
  refine lv_aload_n hx hb dM_look_0 rfl (lv_at hl 0 rfl) ?_
  refine lv_iload_n hx hb dM_look_1 rfl (lv_at hl 1 rfl) ?_
  refine ro_ki (va_runV (As := [.int (nI j)]) (rest := []) ⟨hx, hb, hml, hown, hts⟩ (k_isBlock_ok l D cI cJ cZ o mo n aP aH aT aB aZ aS aa ab ac aR j (by omega) (by omega)) (cwV 1 hts gM_look_M_isBlock_102 rfl rfl rfl (by decide +kernel) ⟨Nat.le_of_ble_eq_true rfl, Nat.le_of_ble_eq_true rfl⟩) (ro_preV (hP.sub [0] rfl) hK (va_recv hK hP (ci := 3) (q0 := 0) rfl rfl)) rfl rfl hl.1 rfl (lv_room (Nat.le_of_ble_eq_true rfl)) dM_look_2 ⟨Nat.le_of_ble_eq_true rfl, Nat.le_of_ble_eq_true rfl⟩) ?_
  refine lv_if_ne (tgt := 12) hx hb dM_look_5 (by decide) (fun c_5 => ?_) (fun c_5 => ?_)
  · skip
    rw [← nI_0] at c_5
    have c_5 : ¬ 1 = 0 := n_ne c_5
    refine lv_iconst (v := nI 0) hx hb dM_look_12 (by decide) ?_
    refine lv_istore_n (lv' := [(3, .int (nI 0)), (0, .ref o), (1, .int (nI j)), (2, .int (nI 0))]) hx hb dM_look_13 rfl hl (by decide) rfl (fun ls hl => ?_)
    refine lv_iconst (v := nI 0) hx hb dM_look_14 (by decide) ?_
    refine lv_istore (lv' := [(4, .int (nI 0)), (3, .int (nI 0)), (0, .ref o), (1, .int (nI j)), (2, .int (nI 0))]) hx hb dM_look_15 hl (by decide) rfl (fun ls hl => ?_)
    have lp_17 : ∀ (n_17 : Nat) (d i c9 : Nat), (d < n_17) → (i + d = n) → (r_ch P j d i c9 = r_ch P j n 0 0) → ∀ (ls : Array Slot), lv_has ls 5 [(0, .ref o), (1, .int (nI j)), (2, .int (nI 0)), (3, .int (nI c9)), (4, .int (nI i))] → W p l e rm_k_look_0 s m args below meth c s.heap [] 0 0 Q (F0 m 17 ls []) := by
      intro n_17
      induction n_17 with
      | zero => intro d i c9 hn hd hg ls hl; exact absurd hn (by omega)
      | succ n_17 ih_17 =>
        intro d i c9 hn hd hg ls hl
        refine lv_iload hx hb dM_look_17 (lv_at hl 4 rfl) ?_
        refine lv_aload_n hx hb dM_look_19 rfl (lv_at hl 0 rfl) ?_
        refine va_get (D := D) (ci := 3) (v := .int (nI n)) (C := RM) (T := TM) (N := 12) hx hb hts iM_look_M hown hK hP 0 rfl rfl 1 (by decide) (hts (.fieldLink RM 54 "TreeDeskModel" "many" "I") (by decide +kernel)) (fun _ h9 => h9) rfl dM_look_20 ?_
        refine lv_icmp_ge (tgt := 51) hx hb dM_look_23 (by decide) (fun c_23 => ?_) (fun c_23 => ?_)
        · skip
          have c_23 : n ≤ i := n_le c_23 (by omega) (by omega)
          have hd0 : d = 0 := by omega
          subst hd0
          have hr9 : r_ch P j n 0 0 = c9 := hg.symm
          refine lv_iload_n hx hb dM_look_51 rfl (lv_at hl 2 rfl) ?_
          refine lv_if_ne (tgt := 65) hx hb dM_look_52 (by decide) (fun c_52 => ?_) (fun c_52 => ?_)
          · skip
            rw [← nI_0] at c_52
            have c_52 : ¬ 0 = 0 := n_ne c_52
            omega
          · skip
            rw [← nI_0] at c_52
            have c_52 : 0 = 0 := n_eq c_52 (by omega) (by omega)
            refine lv_aload_n hx hb dM_look_55 rfl (lv_at hl 0 rfl) ?_
            refine va_get (D := D) (ci := 3) (v := .ref aP) (C := RM) (T := TM) (N := 12) hx hb hts iM_look_M hown hK hP 0 rfl rfl 2 (by decide) (hts (.fieldLink RM 7 "TreeDeskModel" "parent" "[I") (by decide +kernel)) (fun _ h9 => h9) rfl dM_look_56 ?_
            refine lv_iload_n hx hb dM_look_59 rfl (lv_at hl 1 rfl) ?_
            refine ar_ild (j := j) hx hb hK hP 1 0 rfl rfl dM_look_60 (by omega) (by omega) ?_
            refine lv_i2l (v := ((pF P) j).toInt64) hx hb dM_look_61 rfl ?_
            refine lv_goto (tgt := 143) hx hb dM_look_62 (by decide) ?_
            exact ro_lret hQ hx hb hr hlocks dM_look_143 rfl
        · skip
          have c_23 : i < n := n_nle c_23 (by omega) (by omega)
          obtain ⟨d, rfl⟩ : ∃ d' : Nat, d = d' + 1 := ⟨d - 1, by omega⟩
          refine lv_aload_n hx hb dM_look_26 rfl (lv_at hl 0 rfl) ?_
          refine va_get (D := D) (ci := 3) (v := .ref aP) (C := RM) (T := TM) (N := 12) hx hb hts iM_look_M hown hK hP 0 rfl rfl 2 (by decide) (hts (.fieldLink RM 7 "TreeDeskModel" "parent" "[I") (by decide +kernel)) (fun _ h9 => h9) rfl dM_look_27 ?_
          refine lv_iload hx hb dM_look_30 (lv_at hl 4 rfl) ?_
          refine ar_ild (j := i) hx hb hK hP 1 0 rfl rfl dM_look_32 (by omega) (by omega) ?_
          refine lv_iload_n hx hb dM_look_33 rfl (lv_at hl 1 rfl) ?_
          refine lv_icmp_ne (tgt := 43) hx hb dM_look_34 (by decide) (fun c_34 => ?_) (fun c_34 => ?_)
          · skip
            refine lv_iload_n hx hb dM_look_43 rfl (lv_at hl 3 rfl) ?_
            refine lv_istore_n (lv' := [(3, .int (nI c9)), (0, .ref o), (1, .int (nI j)), (2, .int (nI 0)), (4, .int (nI i))]) hx hb dM_look_44 rfl hl (by decide) rfl (fun ls hl => ?_)
            refine lv_iinc (v := nI (i + 1)) (lv' := [(4, .int (nI (i + 1))), (3, .int (nI c9)), (0, .ref o), (1, .int (nI j)), (2, .int (nI 0))]) hx hb dM_look_45 hl (k := 4) rfl (nI_add _ 1) (by decide) rfl (fun ls hl => ?_)
            refine lv_goto (tgt := 17) hx hb dM_look_48 (by decide) ?_
            exact ih_17 d (i + 1) c9 (by omega) (by omega) (by rw [← hg, r_ch, if_neg c_34]) ls (lv_sub hl [2, 3, 4, 1, 0] rfl)
          · skip
            refine lv_iload_n hx hb dM_look_37 rfl (lv_at hl 3 rfl) ?_
            refine lv_iconst (v := nI 1) hx hb dM_look_38 (by decide) ?_
            refine lv_iadd hx hb dM_look_39 ?_
            refine tp_i (y := nI (c9 + 1)) (nI_add _ _) ?_
            refine lv_goto (tgt := 44) hx hb dM_look_40 (by decide) ?_
            refine lv_istore_n (lv' := [(3, .int (nI (c9 + 1))), (0, .ref o), (1, .int (nI j)), (2, .int (nI 0)), (4, .int (nI i))]) hx hb dM_look_44 rfl hl (by decide) rfl (fun ls hl => ?_)
            refine lv_iinc (v := nI (i + 1)) (lv' := [(4, .int (nI (i + 1))), (3, .int (nI (c9 + 1))), (0, .ref o), (1, .int (nI j)), (2, .int (nI 0))]) hx hb dM_look_45 hl (k := 4) rfl (nI_add _ 1) (by decide) rfl (fun ls hl => ?_)
            refine lv_goto (tgt := 17) hx hb dM_look_48 (by decide) ?_
            exact ih_17 d (i + 1) (c9 + 1) (by omega) (by omega) (by rw [← hg, r_ch, if_pos c_34]) ls (lv_sub hl [2, 3, 4, 1, 0] rfl)
    exact lp_17 (n + 1) n 0 0 (by omega) (by omega) rfl ls (lv_sub hl [2, 3, 4, 1, 0] rfl)
  · skip
    rw [← nI_0] at c_5
    have c_5 : 1 = 0 := n_eq c_5 (by omega) (by omega)
    omega

abbrev rm_k_look_1 : Room := { frames := 1, cells := 0, slots := 0, locals := 21 }
set_option maxRecDepth 100000 in
set_option maxHeartbeats 4000000 in
theorem k_look_1 (l : Launch) (D : va_G) (cI cJ cZ : ClassId) (o : Nat) (mo : Nat) (n : Nat) (aP : Nat) (aH : Nat) (aT : Nat) (aB : Nat) (aZ : Nat) (aS : Nat) (aa : Nat) (ab : Nat) (ac : Nat) (aR : Nat) (P : Nat → Nat) (Hh : Nat → Nat) (j : Nat) (hn3 : n ≤ 300) (hj : j < n) : ro_C l yM_look wM_look rm_k_look_1 D vwCl (gT cI cJ cZ) [.ref o, .int (nI j), .int (nI 1)] [(o, .inr (3, [.int (nI mo), .int (nI n), .ref aP, .ref aH, .ref aT, .ref aB, .ref aZ, .ref aS, .ref aa, .ref ab, .ref ac, .ref aR])), (aP, .inl (cI, 300, .inl (pF P))), (aH, .inl (cI, 300, .inl (nF Hh)))] (some (.long ((nI (Hh j)).toInt64))) := by
  refine ro_of (cc := cM_look) (maxL := 5) (ret := some .long) (by decide) rfl (Nat.le_of_ble_eq_true rfl) ?_
  intro p e s m args below meth c Q ls hx hb hr hml hown hts hlocks hK hP hl hQ
  have hl : lv_has ls 5 [(0, .ref o), (1, .int (nI j)), (2, .int (nI 1))] := hl
  have hown : s.vm.findClass RM = some m.cls := hown
  refine lv_aload_n hx hb dM_look_0 rfl (lv_at hl 0 rfl) ?_
  refine lv_iload_n hx hb dM_look_1 rfl (lv_at hl 1 rfl) ?_
  refine ro_ki (va_runV (As := [.int (nI j)]) (rest := []) ⟨hx, hb, hml, hown, hts⟩ (k_isBlock_ok l D cI cJ cZ o mo n aP aH aT aB aZ aS aa ab ac aR j (by omega) (by omega)) (cwV 1 hts gM_look_M_isBlock_102 rfl rfl rfl (by decide +kernel) ⟨Nat.le_of_ble_eq_true rfl, Nat.le_of_ble_eq_true rfl⟩) (ro_preV (hP.sub [0] rfl) hK (va_recv hK hP (ci := 3) (q0 := 0) rfl rfl)) rfl rfl hl.1 rfl (lv_room (Nat.le_of_ble_eq_true rfl)) dM_look_2 ⟨Nat.le_of_ble_eq_true rfl, Nat.le_of_ble_eq_true rfl⟩) ?_
  refine lv_if_ne (tgt := 12) hx hb dM_look_5 (by decide) (fun c_5 => ?_) (fun c_5 => ?_)
  · skip
    rw [← nI_0] at c_5
    have c_5 : ¬ 1 = 0 := n_ne c_5
    refine lv_iconst (v := nI 0) hx hb dM_look_12 (by decide) ?_
    refine lv_istore_n (lv' := [(3, .int (nI 0)), (0, .ref o), (1, .int (nI j)), (2, .int (nI 1))]) hx hb dM_look_13 rfl hl (by decide) rfl (fun ls hl => ?_)
    refine lv_iconst (v := nI 0) hx hb dM_look_14 (by decide) ?_
    refine lv_istore (lv' := [(4, .int (nI 0)), (3, .int (nI 0)), (0, .ref o), (1, .int (nI j)), (2, .int (nI 1))]) hx hb dM_look_15 hl (by decide) rfl (fun ls hl => ?_)
    have lp_17 : ∀ (n_17 : Nat) (d i c9 : Nat), (d < n_17) → (i + d = n) → (r_ch P j d i c9 = r_ch P j n 0 0) → ∀ (ls : Array Slot), lv_has ls 5 [(0, .ref o), (1, .int (nI j)), (2, .int (nI 1)), (3, .int (nI c9)), (4, .int (nI i))] → W p l e rm_k_look_1 s m args below meth c s.heap [] 0 0 Q (F0 m 17 ls []) := by
      intro n_17
      induction n_17 with
      | zero => intro d i c9 hn hd hg ls hl; exact absurd hn (by omega)
      | succ n_17 ih_17 =>
        intro d i c9 hn hd hg ls hl
        refine lv_iload hx hb dM_look_17 (lv_at hl 4 rfl) ?_
        refine lv_aload_n hx hb dM_look_19 rfl (lv_at hl 0 rfl) ?_
        refine va_get (D := D) (ci := 3) (v := .int (nI n)) (C := RM) (T := TM) (N := 12) hx hb hts iM_look_M hown hK hP 0 rfl rfl 1 (by decide) (hts (.fieldLink RM 54 "TreeDeskModel" "many" "I") (by decide +kernel)) (fun _ h9 => h9) rfl dM_look_20 ?_
        refine lv_icmp_ge (tgt := 51) hx hb dM_look_23 (by decide) (fun c_23 => ?_) (fun c_23 => ?_)
        · skip
          have c_23 : n ≤ i := n_le c_23 (by omega) (by omega)
          have hd0 : d = 0 := by omega
          subst hd0
          have hr9 : r_ch P j n 0 0 = c9 := hg.symm
          refine lv_iload_n hx hb dM_look_51 rfl (lv_at hl 2 rfl) ?_
          refine lv_if_ne (tgt := 65) hx hb dM_look_52 (by decide) (fun c_52 => ?_) (fun c_52 => ?_)
          · skip
            rw [← nI_0] at c_52
            have c_52 : ¬ 1 = 0 := n_ne c_52
            refine lv_iload_n hx hb dM_look_65 rfl (lv_at hl 2 rfl) ?_
            refine lv_iconst (v := nI 1) hx hb dM_look_66 (by decide) ?_
            refine lv_icmp_ne (tgt := 80) hx hb dM_look_67 (by decide) (fun c_67 => ?_) (fun c_67 => ?_)
            · skip
              have c_67 : ¬ 1 = 1 := n_ne c_67
              omega
            · skip
              have c_67 : 1 = 1 := n_eq c_67 (by omega) (by omega)
              refine lv_aload_n hx hb dM_look_70 rfl (lv_at hl 0 rfl) ?_
              refine va_get (D := D) (ci := 3) (v := .ref aH) (C := RM) (T := TM) (N := 12) hx hb hts iM_look_M hown hK hP 0 rfl rfl 3 (by decide) (hts (.fieldLink RM 13 "TreeDeskModel" "height" "[I") (by decide +kernel)) (fun _ h9 => h9) rfl dM_look_71 ?_
              refine lv_iload_n hx hb dM_look_74 rfl (lv_at hl 1 rfl) ?_
              refine ar_ild (j := j) hx hb hK hP 2 0 rfl rfl dM_look_75 (by omega) (by omega) ?_
              refine tp_i (y := nI (Hh j)) rfl ?_
              refine lv_i2l (v := (nI (Hh j)).toInt64) hx hb dM_look_76 rfl ?_
              refine lv_goto (tgt := 143) hx hb dM_look_77 (by decide) ?_
              exact ro_lret hQ hx hb hr hlocks dM_look_143 rfl
          · skip
            rw [← nI_0] at c_52
            have c_52 : 1 = 0 := n_eq c_52 (by omega) (by omega)
            omega
        · skip
          have c_23 : i < n := n_nle c_23 (by omega) (by omega)
          obtain ⟨d, rfl⟩ : ∃ d' : Nat, d = d' + 1 := ⟨d - 1, by omega⟩
          refine lv_aload_n hx hb dM_look_26 rfl (lv_at hl 0 rfl) ?_
          refine va_get (D := D) (ci := 3) (v := .ref aP) (C := RM) (T := TM) (N := 12) hx hb hts iM_look_M hown hK hP 0 rfl rfl 2 (by decide) (hts (.fieldLink RM 7 "TreeDeskModel" "parent" "[I") (by decide +kernel)) (fun _ h9 => h9) rfl dM_look_27 ?_
          refine lv_iload hx hb dM_look_30 (lv_at hl 4 rfl) ?_
          refine ar_ild (j := i) hx hb hK hP 1 0 rfl rfl dM_look_32 (by omega) (by omega) ?_
          refine lv_iload_n hx hb dM_look_33 rfl (lv_at hl 1 rfl) ?_
          refine lv_icmp_ne (tgt := 43) hx hb dM_look_34 (by decide) (fun c_34 => ?_) (fun c_34 => ?_)
          · skip
            refine lv_iload_n hx hb dM_look_43 rfl (lv_at hl 3 rfl) ?_
            refine lv_istore_n (lv' := [(3, .int (nI c9)), (0, .ref o), (1, .int (nI j)), (2, .int (nI 1)), (4, .int (nI i))]) hx hb dM_look_44 rfl hl (by decide) rfl (fun ls hl => ?_)
            refine lv_iinc (v := nI (i + 1)) (lv' := [(4, .int (nI (i + 1))), (3, .int (nI c9)), (0, .ref o), (1, .int (nI j)), (2, .int (nI 1))]) hx hb dM_look_45 hl (k := 4) rfl (nI_add _ 1) (by decide) rfl (fun ls hl => ?_)
            refine lv_goto (tgt := 17) hx hb dM_look_48 (by decide) ?_
            exact ih_17 d (i + 1) c9 (by omega) (by omega) (by rw [← hg, r_ch, if_neg c_34]) ls (lv_sub hl [2, 3, 4, 1, 0] rfl)
          · skip
            refine lv_iload_n hx hb dM_look_37 rfl (lv_at hl 3 rfl) ?_
            refine lv_iconst (v := nI 1) hx hb dM_look_38 (by decide) ?_
            refine lv_iadd hx hb dM_look_39 ?_
            refine tp_i (y := nI (c9 + 1)) (nI_add _ _) ?_
            refine lv_goto (tgt := 44) hx hb dM_look_40 (by decide) ?_
            refine lv_istore_n (lv' := [(3, .int (nI (c9 + 1))), (0, .ref o), (1, .int (nI j)), (2, .int (nI 1)), (4, .int (nI i))]) hx hb dM_look_44 rfl hl (by decide) rfl (fun ls hl => ?_)
            refine lv_iinc (v := nI (i + 1)) (lv' := [(4, .int (nI (i + 1))), (3, .int (nI (c9 + 1))), (0, .ref o), (1, .int (nI j)), (2, .int (nI 1))]) hx hb dM_look_45 hl (k := 4) rfl (nI_add _ 1) (by decide) rfl (fun ls hl => ?_)
            refine lv_goto (tgt := 17) hx hb dM_look_48 (by decide) ?_
            exact ih_17 d (i + 1) (c9 + 1) (by omega) (by omega) (by rw [← hg, r_ch, if_pos c_34]) ls (lv_sub hl [2, 3, 4, 1, 0] rfl)
    exact lp_17 (n + 1) n 0 0 (by omega) (by omega) rfl ls (lv_sub hl [2, 3, 4, 1, 0] rfl)
  · skip
    rw [← nI_0] at c_5
    have c_5 : 1 = 0 := n_eq c_5 (by omega) (by omega)
    omega

abbrev rm_k_look_2 : Room := { frames := 1, cells := 0, slots := 0, locals := 21 }
set_option maxRecDepth 100000 in
set_option maxHeartbeats 4000000 in
theorem k_look_2 (l : Launch) (D : va_G) (cI cJ cZ : ClassId) (o : Nat) (mo : Nat) (n : Nat) (aP : Nat) (aH : Nat) (aT : Nat) (aB : Nat) (aZ : Nat) (aS : Nat) (aa : Nat) (ab : Nat) (ac : Nat) (aR : Nat) (P : Nat → Nat) (Tm : Nat → Int64) (j : Nat) (hn3 : n ≤ 300) (hj : j < n) : ro_C l yM_look wM_look rm_k_look_2 D vwCl (gT cI cJ cZ) [.ref o, .int (nI j), .int (nI 2)] [(o, .inr (3, [.int (nI mo), .int (nI n), .ref aP, .ref aH, .ref aT, .ref aB, .ref aZ, .ref aS, .ref aa, .ref ab, .ref ac, .ref aR])), (aP, .inl (cI, 300, .inl (pF P))), (aT, .inl (cJ, 300, .inr (.inl Tm)))] (some (.long (Tm j))) := by
  refine ro_of (cc := cM_look) (maxL := 5) (ret := some .long) (by decide) rfl (Nat.le_of_ble_eq_true rfl) ?_
  intro p e s m args below meth c Q ls hx hb hr hml hown hts hlocks hK hP hl hQ
  have hl : lv_has ls 5 [(0, .ref o), (1, .int (nI j)), (2, .int (nI 2))] := hl
  have hown : s.vm.findClass RM = some m.cls := hown
  refine lv_aload_n hx hb dM_look_0 rfl (lv_at hl 0 rfl) ?_
  refine lv_iload_n hx hb dM_look_1 rfl (lv_at hl 1 rfl) ?_
  refine ro_ki (va_runV (As := [.int (nI j)]) (rest := []) ⟨hx, hb, hml, hown, hts⟩ (k_isBlock_ok l D cI cJ cZ o mo n aP aH aT aB aZ aS aa ab ac aR j (by omega) (by omega)) (cwV 1 hts gM_look_M_isBlock_102 rfl rfl rfl (by decide +kernel) ⟨Nat.le_of_ble_eq_true rfl, Nat.le_of_ble_eq_true rfl⟩) (ro_preV (hP.sub [0] rfl) hK (va_recv hK hP (ci := 3) (q0 := 0) rfl rfl)) rfl rfl hl.1 rfl (lv_room (Nat.le_of_ble_eq_true rfl)) dM_look_2 ⟨Nat.le_of_ble_eq_true rfl, Nat.le_of_ble_eq_true rfl⟩) ?_
  refine lv_if_ne (tgt := 12) hx hb dM_look_5 (by decide) (fun c_5 => ?_) (fun c_5 => ?_)
  · skip
    rw [← nI_0] at c_5
    have c_5 : ¬ 1 = 0 := n_ne c_5
    refine lv_iconst (v := nI 0) hx hb dM_look_12 (by decide) ?_
    refine lv_istore_n (lv' := [(3, .int (nI 0)), (0, .ref o), (1, .int (nI j)), (2, .int (nI 2))]) hx hb dM_look_13 rfl hl (by decide) rfl (fun ls hl => ?_)
    refine lv_iconst (v := nI 0) hx hb dM_look_14 (by decide) ?_
    refine lv_istore (lv' := [(4, .int (nI 0)), (3, .int (nI 0)), (0, .ref o), (1, .int (nI j)), (2, .int (nI 2))]) hx hb dM_look_15 hl (by decide) rfl (fun ls hl => ?_)
    have lp_17 : ∀ (n_17 : Nat) (d i c9 : Nat), (d < n_17) → (i + d = n) → (r_ch P j d i c9 = r_ch P j n 0 0) → ∀ (ls : Array Slot), lv_has ls 5 [(0, .ref o), (1, .int (nI j)), (2, .int (nI 2)), (3, .int (nI c9)), (4, .int (nI i))] → W p l e rm_k_look_2 s m args below meth c s.heap [] 0 0 Q (F0 m 17 ls []) := by
      intro n_17
      induction n_17 with
      | zero => intro d i c9 hn hd hg ls hl; exact absurd hn (by omega)
      | succ n_17 ih_17 =>
        intro d i c9 hn hd hg ls hl
        refine lv_iload hx hb dM_look_17 (lv_at hl 4 rfl) ?_
        refine lv_aload_n hx hb dM_look_19 rfl (lv_at hl 0 rfl) ?_
        refine va_get (D := D) (ci := 3) (v := .int (nI n)) (C := RM) (T := TM) (N := 12) hx hb hts iM_look_M hown hK hP 0 rfl rfl 1 (by decide) (hts (.fieldLink RM 54 "TreeDeskModel" "many" "I") (by decide +kernel)) (fun _ h9 => h9) rfl dM_look_20 ?_
        refine lv_icmp_ge (tgt := 51) hx hb dM_look_23 (by decide) (fun c_23 => ?_) (fun c_23 => ?_)
        · skip
          have c_23 : n ≤ i := n_le c_23 (by omega) (by omega)
          have hd0 : d = 0 := by omega
          subst hd0
          have hr9 : r_ch P j n 0 0 = c9 := hg.symm
          refine lv_iload_n hx hb dM_look_51 rfl (lv_at hl 2 rfl) ?_
          refine lv_if_ne (tgt := 65) hx hb dM_look_52 (by decide) (fun c_52 => ?_) (fun c_52 => ?_)
          · skip
            rw [← nI_0] at c_52
            have c_52 : ¬ 2 = 0 := n_ne c_52
            refine lv_iload_n hx hb dM_look_65 rfl (lv_at hl 2 rfl) ?_
            refine lv_iconst (v := nI 1) hx hb dM_look_66 (by decide) ?_
            refine lv_icmp_ne (tgt := 80) hx hb dM_look_67 (by decide) (fun c_67 => ?_) (fun c_67 => ?_)
            · skip
              have c_67 : ¬ 2 = 1 := n_ne c_67
              refine lv_iload_n hx hb dM_look_80 rfl (lv_at hl 2 rfl) ?_
              refine lv_iconst (v := nI 2) hx hb dM_look_81 (by decide) ?_
              refine lv_icmp_ne (tgt := 94) hx hb dM_look_82 (by decide) (fun c_82 => ?_) (fun c_82 => ?_)
              · skip
                have c_82 : ¬ 2 = 2 := n_ne c_82
                omega
              · skip
                have c_82 : 2 = 2 := n_eq c_82 (by omega) (by omega)
                refine lv_aload_n hx hb dM_look_85 rfl (lv_at hl 0 rfl) ?_
                refine va_get (D := D) (ci := 3) (v := .ref aT) (C := RM) (T := TM) (N := 12) hx hb hts iM_look_M hown hK hP 0 rfl rfl 4 (by decide) (hts (.fieldLink RM 16 "TreeDeskModel" "time" "[J") (by decide +kernel)) (fun _ h9 => h9) rfl dM_look_86 ?_
                refine lv_iload_n hx hb dM_look_89 rfl (lv_at hl 1 rfl) ?_
                refine ar_lld (j := j) hx hb hK hP 2 1 rfl rfl dM_look_90 (by omega) (by omega) ?_
                refine lv_goto (tgt := 143) hx hb dM_look_91 (by decide) ?_
                exact ro_lret hQ hx hb hr hlocks dM_look_143 rfl
            · skip
              have c_67 : 2 = 1 := n_eq c_67 (by omega) (by omega)
              omega
          · skip
            rw [← nI_0] at c_52
            have c_52 : 2 = 0 := n_eq c_52 (by omega) (by omega)
            omega
        · skip
          have c_23 : i < n := n_nle c_23 (by omega) (by omega)
          obtain ⟨d, rfl⟩ : ∃ d' : Nat, d = d' + 1 := ⟨d - 1, by omega⟩
          refine lv_aload_n hx hb dM_look_26 rfl (lv_at hl 0 rfl) ?_
          refine va_get (D := D) (ci := 3) (v := .ref aP) (C := RM) (T := TM) (N := 12) hx hb hts iM_look_M hown hK hP 0 rfl rfl 2 (by decide) (hts (.fieldLink RM 7 "TreeDeskModel" "parent" "[I") (by decide +kernel)) (fun _ h9 => h9) rfl dM_look_27 ?_
          refine lv_iload hx hb dM_look_30 (lv_at hl 4 rfl) ?_
          refine ar_ild (j := i) hx hb hK hP 1 0 rfl rfl dM_look_32 (by omega) (by omega) ?_
          refine lv_iload_n hx hb dM_look_33 rfl (lv_at hl 1 rfl) ?_
          refine lv_icmp_ne (tgt := 43) hx hb dM_look_34 (by decide) (fun c_34 => ?_) (fun c_34 => ?_)
          · skip
            refine lv_iload_n hx hb dM_look_43 rfl (lv_at hl 3 rfl) ?_
            refine lv_istore_n (lv' := [(3, .int (nI c9)), (0, .ref o), (1, .int (nI j)), (2, .int (nI 2)), (4, .int (nI i))]) hx hb dM_look_44 rfl hl (by decide) rfl (fun ls hl => ?_)
            refine lv_iinc (v := nI (i + 1)) (lv' := [(4, .int (nI (i + 1))), (3, .int (nI c9)), (0, .ref o), (1, .int (nI j)), (2, .int (nI 2))]) hx hb dM_look_45 hl (k := 4) rfl (nI_add _ 1) (by decide) rfl (fun ls hl => ?_)
            refine lv_goto (tgt := 17) hx hb dM_look_48 (by decide) ?_
            exact ih_17 d (i + 1) c9 (by omega) (by omega) (by rw [← hg, r_ch, if_neg c_34]) ls (lv_sub hl [2, 3, 4, 1, 0] rfl)
          · skip
            refine lv_iload_n hx hb dM_look_37 rfl (lv_at hl 3 rfl) ?_
            refine lv_iconst (v := nI 1) hx hb dM_look_38 (by decide) ?_
            refine lv_iadd hx hb dM_look_39 ?_
            refine tp_i (y := nI (c9 + 1)) (nI_add _ _) ?_
            refine lv_goto (tgt := 44) hx hb dM_look_40 (by decide) ?_
            refine lv_istore_n (lv' := [(3, .int (nI (c9 + 1))), (0, .ref o), (1, .int (nI j)), (2, .int (nI 2)), (4, .int (nI i))]) hx hb dM_look_44 rfl hl (by decide) rfl (fun ls hl => ?_)
            refine lv_iinc (v := nI (i + 1)) (lv' := [(4, .int (nI (i + 1))), (3, .int (nI (c9 + 1))), (0, .ref o), (1, .int (nI j)), (2, .int (nI 2))]) hx hb dM_look_45 hl (k := 4) rfl (nI_add _ 1) (by decide) rfl (fun ls hl => ?_)
            refine lv_goto (tgt := 17) hx hb dM_look_48 (by decide) ?_
            exact ih_17 d (i + 1) (c9 + 1) (by omega) (by omega) (by rw [← hg, r_ch, if_pos c_34]) ls (lv_sub hl [2, 3, 4, 1, 0] rfl)
    exact lp_17 (n + 1) n 0 0 (by omega) (by omega) rfl ls (lv_sub hl [2, 3, 4, 1, 0] rfl)
  · skip
    rw [← nI_0] at c_5
    have c_5 : 1 = 0 := n_eq c_5 (by omega) (by omega)
    omega

abbrev rm_k_look_3 : Room := { frames := 1, cells := 0, slots := 0, locals := 21 }
set_option maxRecDepth 100000 in
set_option maxHeartbeats 4000000 in
theorem k_look_3 (l : Launch) (D : va_G) (cI cJ cZ : ClassId) (o : Nat) (mo : Nat) (n : Nat) (aP : Nat) (aH : Nat) (aT : Nat) (aB : Nat) (aZ : Nat) (aS : Nat) (aa : Nat) (ab : Nat) (ac : Nat) (aR : Nat) (P : Nat → Nat) (Bt : Nat → Int64) (j : Nat) (hn3 : n ≤ 300) (hj : j < n) : ro_C l yM_look wM_look rm_k_look_3 D vwCl (gT cI cJ cZ) [.ref o, .int (nI j), .int (nI 3)] [(o, .inr (3, [.int (nI mo), .int (nI n), .ref aP, .ref aH, .ref aT, .ref aB, .ref aZ, .ref aS, .ref aa, .ref ab, .ref ac, .ref aR])), (aP, .inl (cI, 300, .inl (pF P))), (aB, .inl (cJ, 300, .inr (.inl Bt)))] (some (.long (Bt j))) := by
  refine ro_of (cc := cM_look) (maxL := 5) (ret := some .long) (by decide) rfl (Nat.le_of_ble_eq_true rfl) ?_
  intro p e s m args below meth c Q ls hx hb hr hml hown hts hlocks hK hP hl hQ
  have hl : lv_has ls 5 [(0, .ref o), (1, .int (nI j)), (2, .int (nI 3))] := hl
  have hown : s.vm.findClass RM = some m.cls := hown
  refine lv_aload_n hx hb dM_look_0 rfl (lv_at hl 0 rfl) ?_
  refine lv_iload_n hx hb dM_look_1 rfl (lv_at hl 1 rfl) ?_
  refine ro_ki (va_runV (As := [.int (nI j)]) (rest := []) ⟨hx, hb, hml, hown, hts⟩ (k_isBlock_ok l D cI cJ cZ o mo n aP aH aT aB aZ aS aa ab ac aR j (by omega) (by omega)) (cwV 1 hts gM_look_M_isBlock_102 rfl rfl rfl (by decide +kernel) ⟨Nat.le_of_ble_eq_true rfl, Nat.le_of_ble_eq_true rfl⟩) (ro_preV (hP.sub [0] rfl) hK (va_recv hK hP (ci := 3) (q0 := 0) rfl rfl)) rfl rfl hl.1 rfl (lv_room (Nat.le_of_ble_eq_true rfl)) dM_look_2 ⟨Nat.le_of_ble_eq_true rfl, Nat.le_of_ble_eq_true rfl⟩) ?_
  refine lv_if_ne (tgt := 12) hx hb dM_look_5 (by decide) (fun c_5 => ?_) (fun c_5 => ?_)
  · skip
    rw [← nI_0] at c_5
    have c_5 : ¬ 1 = 0 := n_ne c_5
    refine lv_iconst (v := nI 0) hx hb dM_look_12 (by decide) ?_
    refine lv_istore_n (lv' := [(3, .int (nI 0)), (0, .ref o), (1, .int (nI j)), (2, .int (nI 3))]) hx hb dM_look_13 rfl hl (by decide) rfl (fun ls hl => ?_)
    refine lv_iconst (v := nI 0) hx hb dM_look_14 (by decide) ?_
    refine lv_istore (lv' := [(4, .int (nI 0)), (3, .int (nI 0)), (0, .ref o), (1, .int (nI j)), (2, .int (nI 3))]) hx hb dM_look_15 hl (by decide) rfl (fun ls hl => ?_)
    have lp_17 : ∀ (n_17 : Nat) (d i c9 : Nat), (d < n_17) → (i + d = n) → (r_ch P j d i c9 = r_ch P j n 0 0) → ∀ (ls : Array Slot), lv_has ls 5 [(0, .ref o), (1, .int (nI j)), (2, .int (nI 3)), (3, .int (nI c9)), (4, .int (nI i))] → W p l e rm_k_look_3 s m args below meth c s.heap [] 0 0 Q (F0 m 17 ls []) := by
      intro n_17
      induction n_17 with
      | zero => intro d i c9 hn hd hg ls hl; exact absurd hn (by omega)
      | succ n_17 ih_17 =>
        intro d i c9 hn hd hg ls hl
        refine lv_iload hx hb dM_look_17 (lv_at hl 4 rfl) ?_
        refine lv_aload_n hx hb dM_look_19 rfl (lv_at hl 0 rfl) ?_
        refine va_get (D := D) (ci := 3) (v := .int (nI n)) (C := RM) (T := TM) (N := 12) hx hb hts iM_look_M hown hK hP 0 rfl rfl 1 (by decide) (hts (.fieldLink RM 54 "TreeDeskModel" "many" "I") (by decide +kernel)) (fun _ h9 => h9) rfl dM_look_20 ?_
        refine lv_icmp_ge (tgt := 51) hx hb dM_look_23 (by decide) (fun c_23 => ?_) (fun c_23 => ?_)
        · skip
          have c_23 : n ≤ i := n_le c_23 (by omega) (by omega)
          have hd0 : d = 0 := by omega
          subst hd0
          have hr9 : r_ch P j n 0 0 = c9 := hg.symm
          refine lv_iload_n hx hb dM_look_51 rfl (lv_at hl 2 rfl) ?_
          refine lv_if_ne (tgt := 65) hx hb dM_look_52 (by decide) (fun c_52 => ?_) (fun c_52 => ?_)
          · skip
            rw [← nI_0] at c_52
            have c_52 : ¬ 3 = 0 := n_ne c_52
            refine lv_iload_n hx hb dM_look_65 rfl (lv_at hl 2 rfl) ?_
            refine lv_iconst (v := nI 1) hx hb dM_look_66 (by decide) ?_
            refine lv_icmp_ne (tgt := 80) hx hb dM_look_67 (by decide) (fun c_67 => ?_) (fun c_67 => ?_)
            · skip
              have c_67 : ¬ 3 = 1 := n_ne c_67
              refine lv_iload_n hx hb dM_look_80 rfl (lv_at hl 2 rfl) ?_
              refine lv_iconst (v := nI 2) hx hb dM_look_81 (by decide) ?_
              refine lv_icmp_ne (tgt := 94) hx hb dM_look_82 (by decide) (fun c_82 => ?_) (fun c_82 => ?_)
              · skip
                have c_82 : ¬ 3 = 2 := n_ne c_82
                refine lv_iload_n hx hb dM_look_94 rfl (lv_at hl 2 rfl) ?_
                refine lv_iconst (v := nI 3) hx hb dM_look_95 (by decide) ?_
                refine lv_icmp_ne (tgt := 108) hx hb dM_look_96 (by decide) (fun c_96 => ?_) (fun c_96 => ?_)
                · skip
                  have c_96 : ¬ 3 = 3 := n_ne c_96
                  omega
                · skip
                  have c_96 : 3 = 3 := n_eq c_96 (by omega) (by omega)
                  refine lv_aload_n hx hb dM_look_99 rfl (lv_at hl 0 rfl) ?_
                  refine va_get (D := D) (ci := 3) (v := .ref aB) (C := RM) (T := TM) (N := 12) hx hb hts iM_look_M hown hK hP 0 rfl rfl 5 (by decide) (hts (.fieldLink RM 20 "TreeDeskModel" "bits" "[J") (by decide +kernel)) (fun _ h9 => h9) rfl dM_look_100 ?_
                  refine lv_iload_n hx hb dM_look_103 rfl (lv_at hl 1 rfl) ?_
                  refine ar_lld (j := j) hx hb hK hP 2 1 rfl rfl dM_look_104 (by omega) (by omega) ?_
                  refine lv_goto (tgt := 143) hx hb dM_look_105 (by decide) ?_
                  exact ro_lret hQ hx hb hr hlocks dM_look_143 rfl
              · skip
                have c_82 : 3 = 2 := n_eq c_82 (by omega) (by omega)
                omega
            · skip
              have c_67 : 3 = 1 := n_eq c_67 (by omega) (by omega)
              omega
          · skip
            rw [← nI_0] at c_52
            have c_52 : 3 = 0 := n_eq c_52 (by omega) (by omega)
            omega
        · skip
          have c_23 : i < n := n_nle c_23 (by omega) (by omega)
          obtain ⟨d, rfl⟩ : ∃ d' : Nat, d = d' + 1 := ⟨d - 1, by omega⟩
          refine lv_aload_n hx hb dM_look_26 rfl (lv_at hl 0 rfl) ?_
          refine va_get (D := D) (ci := 3) (v := .ref aP) (C := RM) (T := TM) (N := 12) hx hb hts iM_look_M hown hK hP 0 rfl rfl 2 (by decide) (hts (.fieldLink RM 7 "TreeDeskModel" "parent" "[I") (by decide +kernel)) (fun _ h9 => h9) rfl dM_look_27 ?_
          refine lv_iload hx hb dM_look_30 (lv_at hl 4 rfl) ?_
          refine ar_ild (j := i) hx hb hK hP 1 0 rfl rfl dM_look_32 (by omega) (by omega) ?_
          refine lv_iload_n hx hb dM_look_33 rfl (lv_at hl 1 rfl) ?_
          refine lv_icmp_ne (tgt := 43) hx hb dM_look_34 (by decide) (fun c_34 => ?_) (fun c_34 => ?_)
          · skip
            refine lv_iload_n hx hb dM_look_43 rfl (lv_at hl 3 rfl) ?_
            refine lv_istore_n (lv' := [(3, .int (nI c9)), (0, .ref o), (1, .int (nI j)), (2, .int (nI 3)), (4, .int (nI i))]) hx hb dM_look_44 rfl hl (by decide) rfl (fun ls hl => ?_)
            refine lv_iinc (v := nI (i + 1)) (lv' := [(4, .int (nI (i + 1))), (3, .int (nI c9)), (0, .ref o), (1, .int (nI j)), (2, .int (nI 3))]) hx hb dM_look_45 hl (k := 4) rfl (nI_add _ 1) (by decide) rfl (fun ls hl => ?_)
            refine lv_goto (tgt := 17) hx hb dM_look_48 (by decide) ?_
            exact ih_17 d (i + 1) c9 (by omega) (by omega) (by rw [← hg, r_ch, if_neg c_34]) ls (lv_sub hl [2, 3, 4, 1, 0] rfl)
          · skip
            refine lv_iload_n hx hb dM_look_37 rfl (lv_at hl 3 rfl) ?_
            refine lv_iconst (v := nI 1) hx hb dM_look_38 (by decide) ?_
            refine lv_iadd hx hb dM_look_39 ?_
            refine tp_i (y := nI (c9 + 1)) (nI_add _ _) ?_
            refine lv_goto (tgt := 44) hx hb dM_look_40 (by decide) ?_
            refine lv_istore_n (lv' := [(3, .int (nI (c9 + 1))), (0, .ref o), (1, .int (nI j)), (2, .int (nI 3)), (4, .int (nI i))]) hx hb dM_look_44 rfl hl (by decide) rfl (fun ls hl => ?_)
            refine lv_iinc (v := nI (i + 1)) (lv' := [(4, .int (nI (i + 1))), (3, .int (nI (c9 + 1))), (0, .ref o), (1, .int (nI j)), (2, .int (nI 3))]) hx hb dM_look_45 hl (k := 4) rfl (nI_add _ 1) (by decide) rfl (fun ls hl => ?_)
            refine lv_goto (tgt := 17) hx hb dM_look_48 (by decide) ?_
            exact ih_17 d (i + 1) (c9 + 1) (by omega) (by omega) (by rw [← hg, r_ch, if_pos c_34]) ls (lv_sub hl [2, 3, 4, 1, 0] rfl)
    exact lp_17 (n + 1) n 0 0 (by omega) (by omega) rfl ls (lv_sub hl [2, 3, 4, 1, 0] rfl)
  · skip
    rw [← nI_0] at c_5
    have c_5 : 1 = 0 := n_eq c_5 (by omega) (by omega)
    omega

abbrev rm_k_look_4 : Room := { frames := 1, cells := 0, slots := 0, locals := 21 }
set_option maxRecDepth 100000 in
set_option maxHeartbeats 4000000 in
theorem k_look_4 (l : Launch) (D : va_G) (cI cJ cZ : ClassId) (o : Nat) (mo : Nat) (n : Nat) (aP : Nat) (aH : Nat) (aT : Nat) (aB : Nat) (aZ : Nat) (aS : Nat) (aa : Nat) (ab : Nat) (ac : Nat) (aR : Nat) (P : Nat → Nat) (Zb : Nat → Nat) (j : Nat) (hn3 : n ≤ 300) (hj : j < n) (hz3 : Zb j < 2) : ro_C l yM_look wM_look rm_k_look_4 D vwCl (gT cI cJ cZ) [.ref o, .int (nI j), .int (nI 4)] [(o, .inr (3, [.int (nI mo), .int (nI n), .ref aP, .ref aH, .ref aT, .ref aB, .ref aZ, .ref aS, .ref aa, .ref ab, .ref ac, .ref aR])), (aP, .inl (cI, 300, .inl (pF P))), (aZ, .inl (cZ, 300, .inl (nF Zb)))] (some (.long (if Zb j = 0 then 0 else 1))) := by
  refine ro_of (cc := cM_look) (maxL := 5) (ret := some .long) (by decide) rfl (Nat.le_of_ble_eq_true rfl) ?_
  intro p e s m args below meth c Q ls hx hb hr hml hown hts hlocks hK hP hl hQ
  have hl : lv_has ls 5 [(0, .ref o), (1, .int (nI j)), (2, .int (nI 4))] := hl
  have hown : s.vm.findClass RM = some m.cls := hown
  refine lv_aload_n hx hb dM_look_0 rfl (lv_at hl 0 rfl) ?_
  refine lv_iload_n hx hb dM_look_1 rfl (lv_at hl 1 rfl) ?_
  refine ro_ki (va_runV (As := [.int (nI j)]) (rest := []) ⟨hx, hb, hml, hown, hts⟩ (k_isBlock_ok l D cI cJ cZ o mo n aP aH aT aB aZ aS aa ab ac aR j (by omega) (by omega)) (cwV 1 hts gM_look_M_isBlock_102 rfl rfl rfl (by decide +kernel) ⟨Nat.le_of_ble_eq_true rfl, Nat.le_of_ble_eq_true rfl⟩) (ro_preV (hP.sub [0] rfl) hK (va_recv hK hP (ci := 3) (q0 := 0) rfl rfl)) rfl rfl hl.1 rfl (lv_room (Nat.le_of_ble_eq_true rfl)) dM_look_2 ⟨Nat.le_of_ble_eq_true rfl, Nat.le_of_ble_eq_true rfl⟩) ?_
  refine lv_if_ne (tgt := 12) hx hb dM_look_5 (by decide) (fun c_5 => ?_) (fun c_5 => ?_)
  · skip
    rw [← nI_0] at c_5
    have c_5 : ¬ 1 = 0 := n_ne c_5
    refine lv_iconst (v := nI 0) hx hb dM_look_12 (by decide) ?_
    refine lv_istore_n (lv' := [(3, .int (nI 0)), (0, .ref o), (1, .int (nI j)), (2, .int (nI 4))]) hx hb dM_look_13 rfl hl (by decide) rfl (fun ls hl => ?_)
    refine lv_iconst (v := nI 0) hx hb dM_look_14 (by decide) ?_
    refine lv_istore (lv' := [(4, .int (nI 0)), (3, .int (nI 0)), (0, .ref o), (1, .int (nI j)), (2, .int (nI 4))]) hx hb dM_look_15 hl (by decide) rfl (fun ls hl => ?_)
    have lp_17 : ∀ (n_17 : Nat) (d i c9 : Nat), (d < n_17) → (i + d = n) → (r_ch P j d i c9 = r_ch P j n 0 0) → ∀ (ls : Array Slot), lv_has ls 5 [(0, .ref o), (1, .int (nI j)), (2, .int (nI 4)), (3, .int (nI c9)), (4, .int (nI i))] → W p l e rm_k_look_4 s m args below meth c s.heap [] 0 0 Q (F0 m 17 ls []) := by
      intro n_17
      induction n_17 with
      | zero => intro d i c9 hn hd hg ls hl; exact absurd hn (by omega)
      | succ n_17 ih_17 =>
        intro d i c9 hn hd hg ls hl
        refine lv_iload hx hb dM_look_17 (lv_at hl 4 rfl) ?_
        refine lv_aload_n hx hb dM_look_19 rfl (lv_at hl 0 rfl) ?_
        refine va_get (D := D) (ci := 3) (v := .int (nI n)) (C := RM) (T := TM) (N := 12) hx hb hts iM_look_M hown hK hP 0 rfl rfl 1 (by decide) (hts (.fieldLink RM 54 "TreeDeskModel" "many" "I") (by decide +kernel)) (fun _ h9 => h9) rfl dM_look_20 ?_
        refine lv_icmp_ge (tgt := 51) hx hb dM_look_23 (by decide) (fun c_23 => ?_) (fun c_23 => ?_)
        · skip
          have c_23 : n ≤ i := n_le c_23 (by omega) (by omega)
          have hd0 : d = 0 := by omega
          subst hd0
          have hr9 : r_ch P j n 0 0 = c9 := hg.symm
          refine lv_iload_n hx hb dM_look_51 rfl (lv_at hl 2 rfl) ?_
          refine lv_if_ne (tgt := 65) hx hb dM_look_52 (by decide) (fun c_52 => ?_) (fun c_52 => ?_)
          · skip
            rw [← nI_0] at c_52
            have c_52 : ¬ 4 = 0 := n_ne c_52
            refine lv_iload_n hx hb dM_look_65 rfl (lv_at hl 2 rfl) ?_
            refine lv_iconst (v := nI 1) hx hb dM_look_66 (by decide) ?_
            refine lv_icmp_ne (tgt := 80) hx hb dM_look_67 (by decide) (fun c_67 => ?_) (fun c_67 => ?_)
            · skip
              have c_67 : ¬ 4 = 1 := n_ne c_67
              refine lv_iload_n hx hb dM_look_80 rfl (lv_at hl 2 rfl) ?_
              refine lv_iconst (v := nI 2) hx hb dM_look_81 (by decide) ?_
              refine lv_icmp_ne (tgt := 94) hx hb dM_look_82 (by decide) (fun c_82 => ?_) (fun c_82 => ?_)
              · skip
                have c_82 : ¬ 4 = 2 := n_ne c_82
                refine lv_iload_n hx hb dM_look_94 rfl (lv_at hl 2 rfl) ?_
                refine lv_iconst (v := nI 3) hx hb dM_look_95 (by decide) ?_
                refine lv_icmp_ne (tgt := 108) hx hb dM_look_96 (by decide) (fun c_96 => ?_) (fun c_96 => ?_)
                · skip
                  have c_96 : ¬ 4 = 3 := n_ne c_96
                  refine lv_iload_n hx hb dM_look_108 rfl (lv_at hl 2 rfl) ?_
                  refine lv_iconst (v := nI 4) hx hb dM_look_109 (by decide) ?_
                  refine lv_icmp_ne (tgt := 130) hx hb dM_look_110 (by decide) (fun c_110 => ?_) (fun c_110 => ?_)
                  · skip
                    have c_110 : ¬ 4 = 4 := n_ne c_110
                    omega
                  · skip
                    have c_110 : 4 = 4 := n_eq c_110 (by omega) (by omega)
                    refine lv_aload_n hx hb dM_look_113 rfl (lv_at hl 0 rfl) ?_
                    refine va_get (D := D) (ci := 3) (v := .ref aZ) (C := RM) (T := TM) (N := 12) hx hb hts iM_look_M hown hK hP 0 rfl rfl 6 (by decide) (hts (.fieldLink RM 23 "TreeDeskModel" "bad" "[Z") (by decide +kernel)) (fun _ h9 => h9) rfl dM_look_114 ?_
                    refine lv_iload_n hx hb dM_look_117 rfl (lv_at hl 1 rfl) ?_
                    refine ar_zld (j := j) hx hb hK hP 2 2 rfl rfl dM_look_118 (by omega) (by omega) ?_
                    refine tp_i (y := nI (Zb j)) rfl ?_
                    refine lv_if_eq (tgt := 126) hx hb dM_look_119 (by decide) (fun c_119 => ?_) (fun c_119 => ?_)
                    · skip
                      rw [← nI_0] at c_119
                      have c_119 : (Zb j) = 0 := n_eq c_119 (by omega) (by omega)
                      refine lv_lconst (v := 0) hx hb dM_look_126 (by decide) ?_
                      refine lv_goto (tgt := 143) hx hb dM_look_127 (by decide) ?_
                      exact ro_lret hQ hx hb hr hlocks dM_look_143 (by rw [if_pos c_119])
                    · skip
                      rw [← nI_0] at c_119
                      have c_119 : ¬ (Zb j) = 0 := n_ne c_119
                      refine lv_lconst (v := 1) hx hb dM_look_122 (by decide) ?_
                      refine lv_goto (tgt := 143) hx hb dM_look_123 (by decide) ?_
                      exact ro_lret hQ hx hb hr hlocks dM_look_143 (by rw [if_neg c_119])
                · skip
                  have c_96 : 4 = 3 := n_eq c_96 (by omega) (by omega)
                  omega
              · skip
                have c_82 : 4 = 2 := n_eq c_82 (by omega) (by omega)
                omega
            · skip
              have c_67 : 4 = 1 := n_eq c_67 (by omega) (by omega)
              omega
          · skip
            rw [← nI_0] at c_52
            have c_52 : 4 = 0 := n_eq c_52 (by omega) (by omega)
            omega
        · skip
          have c_23 : i < n := n_nle c_23 (by omega) (by omega)
          obtain ⟨d, rfl⟩ : ∃ d' : Nat, d = d' + 1 := ⟨d - 1, by omega⟩
          refine lv_aload_n hx hb dM_look_26 rfl (lv_at hl 0 rfl) ?_
          refine va_get (D := D) (ci := 3) (v := .ref aP) (C := RM) (T := TM) (N := 12) hx hb hts iM_look_M hown hK hP 0 rfl rfl 2 (by decide) (hts (.fieldLink RM 7 "TreeDeskModel" "parent" "[I") (by decide +kernel)) (fun _ h9 => h9) rfl dM_look_27 ?_
          refine lv_iload hx hb dM_look_30 (lv_at hl 4 rfl) ?_
          refine ar_ild (j := i) hx hb hK hP 1 0 rfl rfl dM_look_32 (by omega) (by omega) ?_
          refine lv_iload_n hx hb dM_look_33 rfl (lv_at hl 1 rfl) ?_
          refine lv_icmp_ne (tgt := 43) hx hb dM_look_34 (by decide) (fun c_34 => ?_) (fun c_34 => ?_)
          · skip
            refine lv_iload_n hx hb dM_look_43 rfl (lv_at hl 3 rfl) ?_
            refine lv_istore_n (lv' := [(3, .int (nI c9)), (0, .ref o), (1, .int (nI j)), (2, .int (nI 4)), (4, .int (nI i))]) hx hb dM_look_44 rfl hl (by decide) rfl (fun ls hl => ?_)
            refine lv_iinc (v := nI (i + 1)) (lv' := [(4, .int (nI (i + 1))), (3, .int (nI c9)), (0, .ref o), (1, .int (nI j)), (2, .int (nI 4))]) hx hb dM_look_45 hl (k := 4) rfl (nI_add _ 1) (by decide) rfl (fun ls hl => ?_)
            refine lv_goto (tgt := 17) hx hb dM_look_48 (by decide) ?_
            exact ih_17 d (i + 1) c9 (by omega) (by omega) (by rw [← hg, r_ch, if_neg c_34]) ls (lv_sub hl [2, 3, 4, 1, 0] rfl)
          · skip
            refine lv_iload_n hx hb dM_look_37 rfl (lv_at hl 3 rfl) ?_
            refine lv_iconst (v := nI 1) hx hb dM_look_38 (by decide) ?_
            refine lv_iadd hx hb dM_look_39 ?_
            refine tp_i (y := nI (c9 + 1)) (nI_add _ _) ?_
            refine lv_goto (tgt := 44) hx hb dM_look_40 (by decide) ?_
            refine lv_istore_n (lv' := [(3, .int (nI (c9 + 1))), (0, .ref o), (1, .int (nI j)), (2, .int (nI 4)), (4, .int (nI i))]) hx hb dM_look_44 rfl hl (by decide) rfl (fun ls hl => ?_)
            refine lv_iinc (v := nI (i + 1)) (lv' := [(4, .int (nI (i + 1))), (3, .int (nI (c9 + 1))), (0, .ref o), (1, .int (nI j)), (2, .int (nI 4))]) hx hb dM_look_45 hl (k := 4) rfl (nI_add _ 1) (by decide) rfl (fun ls hl => ?_)
            refine lv_goto (tgt := 17) hx hb dM_look_48 (by decide) ?_
            exact ih_17 d (i + 1) (c9 + 1) (by omega) (by omega) (by rw [← hg, r_ch, if_pos c_34]) ls (lv_sub hl [2, 3, 4, 1, 0] rfl)
    exact lp_17 (n + 1) n 0 0 (by omega) (by omega) rfl ls (lv_sub hl [2, 3, 4, 1, 0] rfl)
  · skip
    rw [← nI_0] at c_5
    have c_5 : 1 = 0 := n_eq c_5 (by omega) (by omega)
    omega

abbrev rm_k_look_5 : Room := { frames := 1, cells := 0, slots := 0, locals := 21 }
set_option maxRecDepth 100000 in
set_option maxHeartbeats 4000000 in
theorem k_look_5 (l : Launch) (D : va_G) (cI cJ cZ : ClassId) (o : Nat) (mo : Nat) (n : Nat) (aP : Nat) (aH : Nat) (aT : Nat) (aB : Nat) (aZ : Nat) (aS : Nat) (aa : Nat) (ab : Nat) (ac : Nat) (aR : Nat) (P : Nat → Nat) (j : Nat) (hn3 : n ≤ 300) (hj : j < n) : ro_C l yM_look wM_look rm_k_look_5 D vwCl (gT cI cJ cZ) [.ref o, .int (nI j), .int (nI 5)] [(o, .inr (3, [.int (nI mo), .int (nI n), .ref aP, .ref aH, .ref aT, .ref aB, .ref aZ, .ref aS, .ref aa, .ref ab, .ref ac, .ref aR])), (aP, .inl (cI, 300, .inl (pF P)))] (some (.long ((nI (r_ch P j n 0 0)).toInt64))) := by
  refine ro_of (cc := cM_look) (maxL := 5) (ret := some .long) (by decide) rfl (Nat.le_of_ble_eq_true rfl) ?_
  intro p e s m args below meth c Q ls hx hb hr hml hown hts hlocks hK hP hl hQ
  have hl : lv_has ls 5 [(0, .ref o), (1, .int (nI j)), (2, .int (nI 5))] := hl
  have hown : s.vm.findClass RM = some m.cls := hown
  refine lv_aload_n hx hb dM_look_0 rfl (lv_at hl 0 rfl) ?_
  refine lv_iload_n hx hb dM_look_1 rfl (lv_at hl 1 rfl) ?_
  refine ro_ki (va_runV (As := [.int (nI j)]) (rest := []) ⟨hx, hb, hml, hown, hts⟩ (k_isBlock_ok l D cI cJ cZ o mo n aP aH aT aB aZ aS aa ab ac aR j (by omega) (by omega)) (cwV 1 hts gM_look_M_isBlock_102 rfl rfl rfl (by decide +kernel) ⟨Nat.le_of_ble_eq_true rfl, Nat.le_of_ble_eq_true rfl⟩) (ro_preV (hP.sub [0] rfl) hK (va_recv hK hP (ci := 3) (q0 := 0) rfl rfl)) rfl rfl hl.1 rfl (lv_room (Nat.le_of_ble_eq_true rfl)) dM_look_2 ⟨Nat.le_of_ble_eq_true rfl, Nat.le_of_ble_eq_true rfl⟩) ?_
  refine lv_if_ne (tgt := 12) hx hb dM_look_5 (by decide) (fun c_5 => ?_) (fun c_5 => ?_)
  · skip
    rw [← nI_0] at c_5
    have c_5 : ¬ 1 = 0 := n_ne c_5
    refine lv_iconst (v := nI 0) hx hb dM_look_12 (by decide) ?_
    refine lv_istore_n (lv' := [(3, .int (nI 0)), (0, .ref o), (1, .int (nI j)), (2, .int (nI 5))]) hx hb dM_look_13 rfl hl (by decide) rfl (fun ls hl => ?_)
    refine lv_iconst (v := nI 0) hx hb dM_look_14 (by decide) ?_
    refine lv_istore (lv' := [(4, .int (nI 0)), (3, .int (nI 0)), (0, .ref o), (1, .int (nI j)), (2, .int (nI 5))]) hx hb dM_look_15 hl (by decide) rfl (fun ls hl => ?_)
    have lp_17 : ∀ (n_17 : Nat) (d i c9 : Nat), (d < n_17) → (i + d = n) → (r_ch P j d i c9 = r_ch P j n 0 0) → ∀ (ls : Array Slot), lv_has ls 5 [(0, .ref o), (1, .int (nI j)), (2, .int (nI 5)), (3, .int (nI c9)), (4, .int (nI i))] → W p l e rm_k_look_5 s m args below meth c s.heap [] 0 0 Q (F0 m 17 ls []) := by
      intro n_17
      induction n_17 with
      | zero => intro d i c9 hn hd hg ls hl; exact absurd hn (by omega)
      | succ n_17 ih_17 =>
        intro d i c9 hn hd hg ls hl
        refine lv_iload hx hb dM_look_17 (lv_at hl 4 rfl) ?_
        refine lv_aload_n hx hb dM_look_19 rfl (lv_at hl 0 rfl) ?_
        refine va_get (D := D) (ci := 3) (v := .int (nI n)) (C := RM) (T := TM) (N := 12) hx hb hts iM_look_M hown hK hP 0 rfl rfl 1 (by decide) (hts (.fieldLink RM 54 "TreeDeskModel" "many" "I") (by decide +kernel)) (fun _ h9 => h9) rfl dM_look_20 ?_
        refine lv_icmp_ge (tgt := 51) hx hb dM_look_23 (by decide) (fun c_23 => ?_) (fun c_23 => ?_)
        · skip
          have c_23 : n ≤ i := n_le c_23 (by omega) (by omega)
          have hd0 : d = 0 := by omega
          subst hd0
          have hr9 : r_ch P j n 0 0 = c9 := hg.symm
          refine lv_iload_n hx hb dM_look_51 rfl (lv_at hl 2 rfl) ?_
          refine lv_if_ne (tgt := 65) hx hb dM_look_52 (by decide) (fun c_52 => ?_) (fun c_52 => ?_)
          · skip
            rw [← nI_0] at c_52
            have c_52 : ¬ 5 = 0 := n_ne c_52
            refine lv_iload_n hx hb dM_look_65 rfl (lv_at hl 2 rfl) ?_
            refine lv_iconst (v := nI 1) hx hb dM_look_66 (by decide) ?_
            refine lv_icmp_ne (tgt := 80) hx hb dM_look_67 (by decide) (fun c_67 => ?_) (fun c_67 => ?_)
            · skip
              have c_67 : ¬ 5 = 1 := n_ne c_67
              refine lv_iload_n hx hb dM_look_80 rfl (lv_at hl 2 rfl) ?_
              refine lv_iconst (v := nI 2) hx hb dM_look_81 (by decide) ?_
              refine lv_icmp_ne (tgt := 94) hx hb dM_look_82 (by decide) (fun c_82 => ?_) (fun c_82 => ?_)
              · skip
                have c_82 : ¬ 5 = 2 := n_ne c_82
                refine lv_iload_n hx hb dM_look_94 rfl (lv_at hl 2 rfl) ?_
                refine lv_iconst (v := nI 3) hx hb dM_look_95 (by decide) ?_
                refine lv_icmp_ne (tgt := 108) hx hb dM_look_96 (by decide) (fun c_96 => ?_) (fun c_96 => ?_)
                · skip
                  have c_96 : ¬ 5 = 3 := n_ne c_96
                  refine lv_iload_n hx hb dM_look_108 rfl (lv_at hl 2 rfl) ?_
                  refine lv_iconst (v := nI 4) hx hb dM_look_109 (by decide) ?_
                  refine lv_icmp_ne (tgt := 130) hx hb dM_look_110 (by decide) (fun c_110 => ?_) (fun c_110 => ?_)
                  · skip
                    have c_110 : ¬ 5 = 4 := n_ne c_110
                    refine lv_iload_n hx hb dM_look_130 rfl (lv_at hl 2 rfl) ?_
                    refine lv_iconst (v := nI 5) hx hb dM_look_131 (by decide) ?_
                    refine lv_icmp_ne (tgt := 140) hx hb dM_look_132 (by decide) (fun c_132 => ?_) (fun c_132 => ?_)
                    · skip
                      have c_132 : ¬ 5 = 5 := n_ne c_132
                      omega
                    · skip
                      have c_132 : 5 = 5 := n_eq c_132 (by omega) (by omega)
                      refine lv_iload_n hx hb dM_look_135 rfl (lv_at hl 3 rfl) ?_
                      refine lv_i2l (v := (nI c9).toInt64) hx hb dM_look_136 rfl ?_
                      refine lv_goto (tgt := 143) hx hb dM_look_137 (by decide) ?_
                      exact ro_lret hQ hx hb hr hlocks dM_look_143 (by rw [hr9])
                  · skip
                    have c_110 : 5 = 4 := n_eq c_110 (by omega) (by omega)
                    omega
                · skip
                  have c_96 : 5 = 3 := n_eq c_96 (by omega) (by omega)
                  omega
              · skip
                have c_82 : 5 = 2 := n_eq c_82 (by omega) (by omega)
                omega
            · skip
              have c_67 : 5 = 1 := n_eq c_67 (by omega) (by omega)
              omega
          · skip
            rw [← nI_0] at c_52
            have c_52 : 5 = 0 := n_eq c_52 (by omega) (by omega)
            omega
        · skip
          have c_23 : i < n := n_nle c_23 (by omega) (by omega)
          obtain ⟨d, rfl⟩ : ∃ d' : Nat, d = d' + 1 := ⟨d - 1, by omega⟩
          refine lv_aload_n hx hb dM_look_26 rfl (lv_at hl 0 rfl) ?_
          refine va_get (D := D) (ci := 3) (v := .ref aP) (C := RM) (T := TM) (N := 12) hx hb hts iM_look_M hown hK hP 0 rfl rfl 2 (by decide) (hts (.fieldLink RM 7 "TreeDeskModel" "parent" "[I") (by decide +kernel)) (fun _ h9 => h9) rfl dM_look_27 ?_
          refine lv_iload hx hb dM_look_30 (lv_at hl 4 rfl) ?_
          refine ar_ild (j := i) hx hb hK hP 1 0 rfl rfl dM_look_32 (by omega) (by omega) ?_
          refine lv_iload_n hx hb dM_look_33 rfl (lv_at hl 1 rfl) ?_
          refine lv_icmp_ne (tgt := 43) hx hb dM_look_34 (by decide) (fun c_34 => ?_) (fun c_34 => ?_)
          · skip
            refine lv_iload_n hx hb dM_look_43 rfl (lv_at hl 3 rfl) ?_
            refine lv_istore_n (lv' := [(3, .int (nI c9)), (0, .ref o), (1, .int (nI j)), (2, .int (nI 5)), (4, .int (nI i))]) hx hb dM_look_44 rfl hl (by decide) rfl (fun ls hl => ?_)
            refine lv_iinc (v := nI (i + 1)) (lv' := [(4, .int (nI (i + 1))), (3, .int (nI c9)), (0, .ref o), (1, .int (nI j)), (2, .int (nI 5))]) hx hb dM_look_45 hl (k := 4) rfl (nI_add _ 1) (by decide) rfl (fun ls hl => ?_)
            refine lv_goto (tgt := 17) hx hb dM_look_48 (by decide) ?_
            exact ih_17 d (i + 1) c9 (by omega) (by omega) (by rw [← hg, r_ch, if_neg c_34]) ls (lv_sub hl [2, 3, 4, 1, 0] rfl)
          · skip
            refine lv_iload_n hx hb dM_look_37 rfl (lv_at hl 3 rfl) ?_
            refine lv_iconst (v := nI 1) hx hb dM_look_38 (by decide) ?_
            refine lv_iadd hx hb dM_look_39 ?_
            refine tp_i (y := nI (c9 + 1)) (nI_add _ _) ?_
            refine lv_goto (tgt := 44) hx hb dM_look_40 (by decide) ?_
            refine lv_istore_n (lv' := [(3, .int (nI (c9 + 1))), (0, .ref o), (1, .int (nI j)), (2, .int (nI 5)), (4, .int (nI i))]) hx hb dM_look_44 rfl hl (by decide) rfl (fun ls hl => ?_)
            refine lv_iinc (v := nI (i + 1)) (lv' := [(4, .int (nI (i + 1))), (3, .int (nI (c9 + 1))), (0, .ref o), (1, .int (nI j)), (2, .int (nI 5))]) hx hb dM_look_45 hl (k := 4) rfl (nI_add _ 1) (by decide) rfl (fun ls hl => ?_)
            refine lv_goto (tgt := 17) hx hb dM_look_48 (by decide) ?_
            exact ih_17 d (i + 1) (c9 + 1) (by omega) (by omega) (by rw [← hg, r_ch, if_pos c_34]) ls (lv_sub hl [2, 3, 4, 1, 0] rfl)
    exact lp_17 (n + 1) n 0 0 (by omega) (by omega) rfl ls (lv_sub hl [2, 3, 4, 1, 0] rfl)
  · skip
    rw [← nI_0] at c_5
    have c_5 : 1 = 0 := n_eq c_5 (by omega) (by omega)
    omega

abbrev rm_k_look_out : Room := { frames := 1, cells := 0, slots := 0, locals := 21 }
set_option maxRecDepth 100000 in
set_option maxHeartbeats 4000000 in
theorem k_look_out (l : Launch) (D : va_G) (cI cJ cZ : ClassId) (o : Nat) (mo : Nat) (n : Nat) (aP : Nat) (aH : Nat) (aT : Nat) (aB : Nat) (aZ : Nat) (aS : Nat) (aa : Nat) (ab : Nat) (ac : Nat) (aR : Nat) (P : Nat → Nat) (j : Nat) (w : Int32) (hn3 : n ≤ 300) (hj : j < n) (hw9 : w.toInt < 0 ∨ 5 < w.toInt) : ro_C l yM_look wM_look rm_k_look_out D vwCl (gT cI cJ cZ) [.ref o, .int (nI j), .int w] [(o, .inr (3, [.int (nI mo), .int (nI n), .ref aP, .ref aH, .ref aT, .ref aB, .ref aZ, .ref aS, .ref aa, .ref ab, .ref ac, .ref aR])), (aP, .inl (cI, 300, .inl (pF P)))] (some (.long (-1))) := by
  refine ro_of (cc := cM_look) (maxL := 5) (ret := some .long) (by decide) rfl (Nat.le_of_ble_eq_true rfl) ?_
  intro p e s m args below meth c Q ls hx hb hr hml hown hts hlocks hK hP hl hQ
  have hl : lv_has ls 5 [(0, .ref o), (1, .int (nI j)), (2, .int w)] := hl
  have hown : s.vm.findClass RM = some m.cls := hown
  refine lv_aload_n hx hb dM_look_0 rfl (lv_at hl 0 rfl) ?_
  refine lv_iload_n hx hb dM_look_1 rfl (lv_at hl 1 rfl) ?_
  refine ro_ki (va_runV (As := [.int (nI j)]) (rest := []) ⟨hx, hb, hml, hown, hts⟩ (k_isBlock_ok l D cI cJ cZ o mo n aP aH aT aB aZ aS aa ab ac aR j (by omega) (by omega)) (cwV 1 hts gM_look_M_isBlock_102 rfl rfl rfl (by decide +kernel) ⟨Nat.le_of_ble_eq_true rfl, Nat.le_of_ble_eq_true rfl⟩) (ro_preV (hP.sub [0] rfl) hK (va_recv hK hP (ci := 3) (q0 := 0) rfl rfl)) rfl rfl hl.1 rfl (lv_room (Nat.le_of_ble_eq_true rfl)) dM_look_2 ⟨Nat.le_of_ble_eq_true rfl, Nat.le_of_ble_eq_true rfl⟩) ?_
  refine lv_if_ne (tgt := 12) hx hb dM_look_5 (by decide) (fun c_5 => ?_) (fun c_5 => ?_)
  · skip
    rw [← nI_0] at c_5
    have c_5 : ¬ 1 = 0 := n_ne c_5
    refine lv_iconst (v := nI 0) hx hb dM_look_12 (by decide) ?_
    refine lv_istore_n (lv' := [(3, .int (nI 0)), (0, .ref o), (1, .int (nI j)), (2, .int w)]) hx hb dM_look_13 rfl hl (by decide) rfl (fun ls hl => ?_)
    refine lv_iconst (v := nI 0) hx hb dM_look_14 (by decide) ?_
    refine lv_istore (lv' := [(4, .int (nI 0)), (3, .int (nI 0)), (0, .ref o), (1, .int (nI j)), (2, .int w)]) hx hb dM_look_15 hl (by decide) rfl (fun ls hl => ?_)
    have lp_17 : ∀ (n_17 : Nat) (d i c9 : Nat), (d < n_17) → (i + d = n) → (r_ch P j d i c9 = r_ch P j n 0 0) → ∀ (ls : Array Slot), lv_has ls 5 [(0, .ref o), (1, .int (nI j)), (2, .int w), (3, .int (nI c9)), (4, .int (nI i))] → W p l e rm_k_look_out s m args below meth c s.heap [] 0 0 Q (F0 m 17 ls []) := by
      intro n_17
      induction n_17 with
      | zero => intro d i c9 hn hd hg ls hl; exact absurd hn (by omega)
      | succ n_17 ih_17 =>
        intro d i c9 hn hd hg ls hl
        refine lv_iload hx hb dM_look_17 (lv_at hl 4 rfl) ?_
        refine lv_aload_n hx hb dM_look_19 rfl (lv_at hl 0 rfl) ?_
        refine va_get (D := D) (ci := 3) (v := .int (nI n)) (C := RM) (T := TM) (N := 12) hx hb hts iM_look_M hown hK hP 0 rfl rfl 1 (by decide) (hts (.fieldLink RM 54 "TreeDeskModel" "many" "I") (by decide +kernel)) (fun _ h9 => h9) rfl dM_look_20 ?_
        refine lv_icmp_ge (tgt := 51) hx hb dM_look_23 (by decide) (fun c_23 => ?_) (fun c_23 => ?_)
        · skip
          have c_23 : n ≤ i := n_le c_23 (by omega) (by omega)
          have hd0 : d = 0 := by omega
          subst hd0
          refine lv_iload_n hx hb dM_look_51 rfl (lv_at hl 2 rfl) ?_
          refine lv_if_ne (tgt := 65) hx hb dM_look_52 (by decide) (fun c_52 => ?_) (fun c_52 => ?_)
          · skip
            refine lv_iload_n hx hb dM_look_65 rfl (lv_at hl 2 rfl) ?_
            refine lv_iconst (v := nI 1) hx hb dM_look_66 (by decide) ?_
            refine lv_icmp_ne (tgt := 80) hx hb dM_look_67 (by decide) (fun c_67 => ?_) (fun c_67 => ?_)
            · skip
              refine lv_iload_n hx hb dM_look_80 rfl (lv_at hl 2 rfl) ?_
              refine lv_iconst (v := nI 2) hx hb dM_look_81 (by decide) ?_
              refine lv_icmp_ne (tgt := 94) hx hb dM_look_82 (by decide) (fun c_82 => ?_) (fun c_82 => ?_)
              · skip
                refine lv_iload_n hx hb dM_look_94 rfl (lv_at hl 2 rfl) ?_
                refine lv_iconst (v := nI 3) hx hb dM_look_95 (by decide) ?_
                refine lv_icmp_ne (tgt := 108) hx hb dM_look_96 (by decide) (fun c_96 => ?_) (fun c_96 => ?_)
                · skip
                  refine lv_iload_n hx hb dM_look_108 rfl (lv_at hl 2 rfl) ?_
                  refine lv_iconst (v := nI 4) hx hb dM_look_109 (by decide) ?_
                  refine lv_icmp_ne (tgt := 130) hx hb dM_look_110 (by decide) (fun c_110 => ?_) (fun c_110 => ?_)
                  · skip
                    refine lv_iload_n hx hb dM_look_130 rfl (lv_at hl 2 rfl) ?_
                    refine lv_iconst (v := nI 5) hx hb dM_look_131 (by decide) ?_
                    refine lv_icmp_ne (tgt := 140) hx hb dM_look_132 (by decide) (fun c_132 => ?_) (fun c_132 => ?_)
                    · skip
                      refine lv_ldc2 (v := (-1)) hx hb hown (hts (.constantLong RM 106 (-1)) (by decide +kernel)) dM_look_140 ?_
                      exact ro_lret hQ hx hb hr hlocks dM_look_143 rfl
                    · skip
                      exact absurd hw9 (by rw [c_132]; decide)
                  · skip
                    exact absurd hw9 (by rw [c_110]; decide)
                · skip
                  exact absurd hw9 (by rw [c_96]; decide)
              · skip
                exact absurd hw9 (by rw [c_82]; decide)
            · skip
              exact absurd hw9 (by rw [c_67]; decide)
          · skip
            exact absurd hw9 (by rw [c_52]; decide)
        · skip
          have c_23 : i < n := n_nle c_23 (by omega) (by omega)
          obtain ⟨d, rfl⟩ : ∃ d' : Nat, d = d' + 1 := ⟨d - 1, by omega⟩
          refine lv_aload_n hx hb dM_look_26 rfl (lv_at hl 0 rfl) ?_
          refine va_get (D := D) (ci := 3) (v := .ref aP) (C := RM) (T := TM) (N := 12) hx hb hts iM_look_M hown hK hP 0 rfl rfl 2 (by decide) (hts (.fieldLink RM 7 "TreeDeskModel" "parent" "[I") (by decide +kernel)) (fun _ h9 => h9) rfl dM_look_27 ?_
          refine lv_iload hx hb dM_look_30 (lv_at hl 4 rfl) ?_
          refine ar_ild (j := i) hx hb hK hP 1 0 rfl rfl dM_look_32 (by omega) (by omega) ?_
          refine lv_iload_n hx hb dM_look_33 rfl (lv_at hl 1 rfl) ?_
          refine lv_icmp_ne (tgt := 43) hx hb dM_look_34 (by decide) (fun c_34 => ?_) (fun c_34 => ?_)
          · skip
            refine lv_iload_n hx hb dM_look_43 rfl (lv_at hl 3 rfl) ?_
            refine lv_istore_n (lv' := [(3, .int (nI c9)), (0, .ref o), (1, .int (nI j)), (2, .int w), (4, .int (nI i))]) hx hb dM_look_44 rfl hl (by decide) rfl (fun ls hl => ?_)
            refine lv_iinc (v := nI (i + 1)) (lv' := [(4, .int (nI (i + 1))), (3, .int (nI c9)), (0, .ref o), (1, .int (nI j)), (2, .int w)]) hx hb dM_look_45 hl (k := 4) rfl (nI_add _ 1) (by decide) rfl (fun ls hl => ?_)
            refine lv_goto (tgt := 17) hx hb dM_look_48 (by decide) ?_
            exact ih_17 d (i + 1) c9 (by omega) (by omega) (by rw [← hg, r_ch, if_neg c_34]) ls (lv_sub hl [2, 3, 4, 1, 0] rfl)
          · skip
            refine lv_iload_n hx hb dM_look_37 rfl (lv_at hl 3 rfl) ?_
            refine lv_iconst (v := nI 1) hx hb dM_look_38 (by decide) ?_
            refine lv_iadd hx hb dM_look_39 ?_
            refine tp_i (y := nI (c9 + 1)) (nI_add _ _) ?_
            refine lv_goto (tgt := 44) hx hb dM_look_40 (by decide) ?_
            refine lv_istore_n (lv' := [(3, .int (nI (c9 + 1))), (0, .ref o), (1, .int (nI j)), (2, .int w), (4, .int (nI i))]) hx hb dM_look_44 rfl hl (by decide) rfl (fun ls hl => ?_)
            refine lv_iinc (v := nI (i + 1)) (lv' := [(4, .int (nI (i + 1))), (3, .int (nI (c9 + 1))), (0, .ref o), (1, .int (nI j)), (2, .int w)]) hx hb dM_look_45 hl (k := 4) rfl (nI_add _ 1) (by decide) rfl (fun ls hl => ?_)
            refine lv_goto (tgt := 17) hx hb dM_look_48 (by decide) ?_
            exact ih_17 d (i + 1) (c9 + 1) (by omega) (by omega) (by rw [← hg, r_ch, if_pos c_34]) ls (lv_sub hl [2, 3, 4, 1, 0] rfl)
    exact lp_17 (n + 1) n 0 0 (by omega) (by omega) rfl ls (lv_sub hl [2, 3, 4, 1, 0] rfl)
  · skip
    rw [← nI_0] at c_5
    have c_5 : 1 = 0 := n_eq c_5 (by omega) (by omega)
    omega

abbrev rm_k_look_nob : Room := { frames := 1, cells := 0, slots := 0, locals := 21 }
set_option maxRecDepth 100000 in
set_option maxHeartbeats 4000000 in
theorem k_look_nob (l : Launch) (D : va_G) (cI cJ cZ : ClassId) (o : Nat) (mo : Nat) (n : Nat) (aP : Nat) (aH : Nat) (aT : Nat) (aB : Nat) (aZ : Nat) (aS : Nat) (aa : Nat) (ab : Nat) (ac : Nat) (aR : Nat) (x : Int32) (w : Int32) (hx9 : ¬ (0 ≤ x ∧ x < nI n)) : ro_C l yM_look wM_look rm_k_look_nob D vwCl (gT cI cJ cZ) [.ref o, .int x, .int w] [(o, .inr (3, [.int (nI mo), .int (nI n), .ref aP, .ref aH, .ref aT, .ref aB, .ref aZ, .ref aS, .ref aa, .ref ab, .ref ac, .ref aR]))] (some (.long (-1))) := by
  refine ro_of (cc := cM_look) (maxL := 5) (ret := some .long) (by decide) rfl (Nat.le_of_ble_eq_true rfl) ?_
  intro p e s m args below meth c Q ls hx hb hr hml hown hts hlocks hK hP hl hQ
  have hl : lv_has ls 5 [(0, .ref o), (1, .int x), (2, .int w)] := hl
  have hown : s.vm.findClass RM = some m.cls := hown
  refine lv_aload_n hx hb dM_look_0 rfl (lv_at hl 0 rfl) ?_
  refine lv_iload_n hx hb dM_look_1 rfl (lv_at hl 1 rfl) ?_
  refine ro_ki (va_runV (As := [.int x]) (rest := []) ⟨hx, hb, hml, hown, hts⟩ (k_isBlock_no l D cI cJ cZ o mo n aP aH aT aB aZ aS aa ab ac aR x hx9) (cwV 1 hts gM_look_M_isBlock_102 rfl rfl rfl (by decide +kernel) ⟨Nat.le_of_ble_eq_true rfl, Nat.le_of_ble_eq_true rfl⟩) (ro_preV (hP.sub [0] rfl) hK (va_recv hK hP (ci := 3) (q0 := 0) rfl rfl)) rfl rfl hl.1 rfl (lv_room (Nat.le_of_ble_eq_true rfl)) dM_look_2 ⟨Nat.le_of_ble_eq_true rfl, Nat.le_of_ble_eq_true rfl⟩) ?_
  refine lv_if_ne (tgt := 12) hx hb dM_look_5 (by decide) (fun c_5 => ?_) (fun c_5 => ?_)
  · skip
    rw [← nI_0] at c_5
    have c_5 : ¬ 0 = 0 := n_ne c_5
    omega
  · skip
    rw [← nI_0] at c_5
    have c_5 : 0 = 0 := n_eq c_5 (by omega) (by omega)
    refine lv_ldc2 (v := (-1)) hx hb hown (hts (.constantLong RM 106 (-1)) (by decide +kernel)) dM_look_8 ?_
    exact ro_lret hQ hx hb hr hlocks dM_look_11 rfl

abbrev rm_k_must_nob : Room := { frames := 2, cells := 0, slots := 0, locals := 48 }
set_option maxRecDepth 100000 in
set_option maxHeartbeats 4000000 in
theorem k_must_nob (l : Launch) (D : va_G) (cI cJ cZ : ClassId) (o : Nat) (mo : Nat) (n : Nat) (aP : Nat) (aH : Nat) (aT : Nat) (aB : Nat) (aZ : Nat) (aS : Nat) (aa : Nat) (ab : Nat) (ac : Nat) (aR : Nat) (x : Int32) (hx9 : ¬ (0 ≤ x ∧ x < nI n)) : ro_C l yM_must wM_must rm_k_must_nob D vwCl (gT cI cJ cZ) [.ref o, .int x] [(o, .inr (3, [.int (nI mo), .int (nI n), .ref aP, .ref aH, .ref aT, .ref aB, .ref aZ, .ref aS, .ref aa, .ref ab, .ref ac, .ref aR]))] (some (.long (-1))) := by
  refine ro_of (cc := cM_must) (maxL := 4) (ret := some .long) (by decide) rfl (Nat.le_of_ble_eq_true rfl) ?_
  intro p e s m args below meth c Q ls hx hb hr hml hown hts hlocks hK hP hl hQ
  have hl : lv_has ls 4 [(0, .ref o), (1, .int x)] := hl
  have hown : s.vm.findClass RM = some m.cls := hown
  refine lv_aload_n hx hb dM_must_0 rfl (lv_at hl 0 rfl) ?_
  refine lv_iload_n hx hb dM_must_1 rfl (lv_at hl 1 rfl) ?_
  refine ro_ki (va_runV (As := [.int x]) (rest := []) ⟨hx, hb, hml, hown, hts⟩ (k_isBlock_no l D cI cJ cZ o mo n aP aH aT aB aZ aS aa ab ac aR x hx9) (cwV 1 hts gM_must_M_isBlock_102 rfl rfl rfl (by decide +kernel) ⟨Nat.le_of_ble_eq_true rfl, Nat.le_of_ble_eq_true rfl⟩) (ro_preV (hP.sub [0] rfl) hK (va_recv hK hP (ci := 3) (q0 := 0) rfl rfl)) rfl rfl hl.1 rfl (lv_room (Nat.le_of_ble_eq_true rfl)) dM_must_2 ⟨Nat.le_of_ble_eq_true rfl, Nat.le_of_ble_eq_true rfl⟩) ?_
  refine lv_if_ne (tgt := 12) hx hb dM_must_5 (by decide) (fun c_5 => ?_) (fun c_5 => ?_)
  · skip
    rw [← nI_0] at c_5
    have c_5 : ¬ 0 = 0 := n_ne c_5
    omega
  · skip
    rw [← nI_0] at c_5
    have c_5 : 0 = 0 := n_eq c_5 (by omega) (by omega)
    refine lv_ldc2 (v := (-1)) hx hb hown (hts (.constantLong RM 106 (-1)) (by decide +kernel)) dM_must_8 ?_
    exact ro_lret hQ hx hb hr hlocks dM_must_11 rfl

abbrev rm_k_must_same : Room := { frames := 2, cells := 0, slots := 0, locals := 48 }
set_option maxRecDepth 100000 in
set_option maxHeartbeats 4000000 in
theorem k_must_same (l : Launch) (D : va_G) (cI cJ cZ : ClassId) (o : Nat) (mo : Nat) (n : Nat) (aP : Nat) (aH : Nat) (aT : Nat) (aB : Nat) (aZ : Nat) (aS : Nat) (aa : Nat) (ab : Nat) (ac : Nat) (aR : Nat) (Hh : Nat → Nat) (Bt : Nat → Int64) (j : Nat) (hn3 : n ≤ 300) (hj : j < n) (hHj : Hh j < 300) (h8 : ¬ (Hh j + 1) % 8 = 0) : ro_C l yM_must wM_must rm_k_must_same D vwCl (gT cI cJ cZ) [.ref o, .int (nI j)] [(o, .inr (3, [.int (nI mo), .int (nI n), .ref aP, .ref aH, .ref aT, .ref aB, .ref aZ, .ref aS, .ref aa, .ref ab, .ref ac, .ref aR])), (aH, .inl (cI, 300, .inl (nF Hh))), (aB, .inl (cJ, 300, .inr (.inl Bt)))] (some (.long (Bt j))) := by
  refine ro_of (cc := cM_must) (maxL := 4) (ret := some .long) (by decide) rfl (Nat.le_of_ble_eq_true rfl) ?_
  intro p e s m args below meth c Q ls hx hb hr hml hown hts hlocks hK hP hl hQ
  have hl : lv_has ls 4 [(0, .ref o), (1, .int (nI j))] := hl
  have hown : s.vm.findClass RM = some m.cls := hown
  refine lv_aload_n hx hb dM_must_0 rfl (lv_at hl 0 rfl) ?_
  refine lv_iload_n hx hb dM_must_1 rfl (lv_at hl 1 rfl) ?_
  refine ro_ki (va_runV (As := [.int (nI j)]) (rest := []) ⟨hx, hb, hml, hown, hts⟩ (k_isBlock_ok l D cI cJ cZ o mo n aP aH aT aB aZ aS aa ab ac aR j (by omega) (by omega)) (cwV 1 hts gM_must_M_isBlock_102 rfl rfl rfl (by decide +kernel) ⟨Nat.le_of_ble_eq_true rfl, Nat.le_of_ble_eq_true rfl⟩) (ro_preV (hP.sub [0] rfl) hK (va_recv hK hP (ci := 3) (q0 := 0) rfl rfl)) rfl rfl hl.1 rfl (lv_room (Nat.le_of_ble_eq_true rfl)) dM_must_2 ⟨Nat.le_of_ble_eq_true rfl, Nat.le_of_ble_eq_true rfl⟩) ?_
  refine lv_if_ne (tgt := 12) hx hb dM_must_5 (by decide) (fun c_5 => ?_) (fun c_5 => ?_)
  · skip
    rw [← nI_0] at c_5
    have c_5 : ¬ 1 = 0 := n_ne c_5
    refine lv_aload_n hx hb dM_must_12 rfl (lv_at hl 0 rfl) ?_
    refine va_get (D := D) (ci := 3) (v := .ref aH) (C := RM) (T := TM) (N := 12) hx hb hts iM_must_M hown hK hP 0 rfl rfl 3 (by decide) (hts (.fieldLink RM 13 "TreeDeskModel" "height" "[I") (by decide +kernel)) (fun _ h9 => h9) rfl dM_must_13 ?_
    refine lv_iload_n hx hb dM_must_16 rfl (lv_at hl 1 rfl) ?_
    refine ar_ild (j := j) hx hb hK hP 1 0 rfl rfl dM_must_17 (by omega) (by omega) ?_
    refine tp_i (y := nI (Hh j)) rfl ?_
    refine lv_iconst (v := nI 1) hx hb dM_must_18 (by decide) ?_
    refine lv_iadd hx hb dM_must_19 ?_
    refine tp_i (y := nI ((Hh j) + 1)) (nI_add _ _) ?_
    refine lv_bipush (v := nI 8) hx hb dM_must_20 (by decide) ?_
    refine lv_irem hx hb dM_must_22 (nI_ne0 (by omega) (by omega)) ?_
    refine tp_i (y := nI (((Hh j) + 1) % 8)) (pk_rem (by omega) (by omega) (by omega)) ?_
    refine lv_if_eq (tgt := 33) hx hb dM_must_23 (by decide) (fun c_23 => ?_) (fun c_23 => ?_)
    · skip
      rw [← nI_0] at c_23
      have c_23 : (((Hh j) + 1) % 8) = 0 := n_eq c_23 (by omega) (by omega)
      omega
    · skip
      rw [← nI_0] at c_23
      have c_23 : ¬ (((Hh j) + 1) % 8) = 0 := n_ne c_23
      refine lv_aload_n hx hb dM_must_26 rfl (lv_at hl 0 rfl) ?_
      refine va_get (D := D) (ci := 3) (v := .ref aB) (C := RM) (T := TM) (N := 12) hx hb hts iM_must_M hown hK hP 0 rfl rfl 5 (by decide) (hts (.fieldLink RM 20 "TreeDeskModel" "bits" "[J") (by decide +kernel)) (fun _ h9 => h9) rfl dM_must_27 ?_
      refine lv_iload_n hx hb dM_must_30 rfl (lv_at hl 1 rfl) ?_
      refine ar_lld (j := j) hx hb hK hP 2 1 rfl rfl dM_must_31 (by omega) (by omega) ?_
      exact ro_lret hQ hx hb hr hlocks dM_must_32 rfl
  · skip
    rw [← nI_0] at c_5
    have c_5 : 1 = 0 := n_eq c_5 (by omega) (by omega)
    omega

abbrev rm_k_median_nob : Room := { frames := 1, cells := 0, slots := 0, locals := 21 }
set_option maxRecDepth 100000 in
set_option maxHeartbeats 4000000 in
theorem k_median_nob (l : Launch) (D : va_G) (cI cJ cZ : ClassId) (o : Nat) (mo : Nat) (n : Nat) (aP : Nat) (aH : Nat) (aT : Nat) (aB : Nat) (aZ : Nat) (aS : Nat) (aa : Nat) (ab : Nat) (ac : Nat) (aR : Nat) (x : Int32) (hx9 : ¬ (0 ≤ x ∧ x < nI n)) : ro_C l yM_median wM_median rm_k_median_nob D vwCl (gT cI cJ cZ) [.ref o, .int x] [(o, .inr (3, [.int (nI mo), .int (nI n), .ref aP, .ref aH, .ref aT, .ref aB, .ref aZ, .ref aS, .ref aa, .ref ab, .ref ac, .ref aR]))] (some (.long (-1))) := by
  refine ro_of (cc := cM_median) (maxL := 5) (ret := some .long) (by decide) rfl (Nat.le_of_ble_eq_true rfl) ?_
  intro p e s m args below meth c Q ls hx hb hr hml hown hts hlocks hK hP hl hQ
  have hl : lv_has ls 5 [(0, .ref o), (1, .int x)] := hl
  have hown : s.vm.findClass RM = some m.cls := hown
  refine lv_aload_n hx hb dM_median_0 rfl (lv_at hl 0 rfl) ?_
  refine lv_iload_n hx hb dM_median_1 rfl (lv_at hl 1 rfl) ?_
  refine ro_ki (va_runV (As := [.int x]) (rest := []) ⟨hx, hb, hml, hown, hts⟩ (k_isBlock_no l D cI cJ cZ o mo n aP aH aT aB aZ aS aa ab ac aR x hx9) (cwV 1 hts gM_median_M_isBlock_102 rfl rfl rfl (by decide +kernel) ⟨Nat.le_of_ble_eq_true rfl, Nat.le_of_ble_eq_true rfl⟩) (ro_preV (hP.sub [0] rfl) hK (va_recv hK hP (ci := 3) (q0 := 0) rfl rfl)) rfl rfl hl.1 rfl (lv_room (Nat.le_of_ble_eq_true rfl)) dM_median_2 ⟨Nat.le_of_ble_eq_true rfl, Nat.le_of_ble_eq_true rfl⟩) ?_
  refine lv_if_ne (tgt := 12) hx hb dM_median_5 (by decide) (fun c_5 => ?_) (fun c_5 => ?_)
  · skip
    rw [← nI_0] at c_5
    have c_5 : ¬ 0 = 0 := n_ne c_5
    omega
  · skip
    rw [← nI_0] at c_5
    have c_5 : 0 = 0 := n_eq c_5 (by omega) (by omega)
    refine lv_ldc2 (v := (-1)) hx hb hown (hts (.constantLong RM 106 (-1)) (by decide +kernel)) dM_median_8 ?_
    exact ro_lret hQ hx hb hr hlocks dM_median_11 rfl
