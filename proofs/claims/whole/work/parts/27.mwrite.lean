abbrev rm_k_fault : Room := { frames := 2, cells := 0, slots := 0, locals := 48 }
set_option maxRecDepth 100000 in
set_option maxHeartbeats 4000000 in
theorem k_fault (l : Launch) (D : va_G) (cI cJ cZ : ClassId) (o : Nat) (mo : Nat) (n : Nat) (aP : Nat) (aH : Nat) (aT : Nat) (aB : Nat) (aZ : Nat) (aS : Nat) (aa : Nat) (ab : Nat) (ac : Nat) (aR : Nat) (α : Nat → Nat) (β : Nat → Nat) (v : Nat) (hα8 : by8 α) (hβ8 : by8 β) (hv : v < 4294967296) : rw_C l yM_fault wM_fault rm_k_fault D vwCl (gT cI cJ cZ) [.ref o, .long (lN v)] [(o, .inr (3, [.int (nI mo), .int (nI n), .ref aP, .ref aH, .ref aT, .ref aB, .ref aZ, .ref aS, .ref aa, .ref ab, .ref ac, .ref aR])), (aa, .inl (cI, 40, .inl (nF α))), (ab, .inl (cI, 40, .inl (nF β)))] (fun v9 w9 => v9 = some (.int (r_fault v α β)) ∧ ∃ a9 b9 : Nat → Nat, by8 a9 ∧ by8 b9 ∧ w9 = [(o, .inr (3, [.int (nI mo), .int (nI n), .ref aP, .ref aH, .ref aT, .ref aB, .ref aZ, .ref aS, .ref aa, .ref ab, .ref ac, .ref aR])), (aa, .inl (cI, 40, .inl (nF a9))), (ab, .inl (cI, 40, .inl (nF b9)))]) 0 0 := by
  refine rw_of (cc := cM_fault) (maxL := 7) (ret := some .int) (by decide) rfl (Nat.le_of_ble_eq_true rfl) ?_
  intro p e s m args below meth c Q A ls hx hb hr hml hown hts hlocks hin hK hP hD hA hl hQ
  have hS : va_S A s.heap s.heap [] := va_S.rf
  have hl : lv_has ls 7 [(0, .ref o), (1, .long (lN v))] := hl
  have hown : s.vm.findClass RM = some m.cls := hown
  obtain ⟨H, hHe⟩ : ∃ H : Heap, H = s.heap := ⟨_, rfl⟩
  rw [← hHe] at hP
  have hS : va_S A s.heap H [] := by rw [hHe]; exact va_S.rf
  suffices h9 : W p l e rm_k_fault s m args below meth c H [] 0 0 Q (F0 m 0 ls []) by rw [hHe] at h9; exact h9
  clear hHe
  refine lv_lload_n hx hb dM_fault_0 rfl (lv_at hl 1 rfl) ?_
  refine ro_ki (va_runS (As := [.long (lN v)]) (rest := []) ⟨hx, hb, hml, hown, hts⟩ (k_isBits_ok l D cI cJ cZ v (by omega)) (va_cwS 1 hts gM_fault_M_isBits_84 rfl rfl rfl (by decide +kernel) ⟨Nat.le_of_ble_eq_true rfl, Nat.le_of_ble_eq_true rfl⟩) (ro_preS (hP.sub [] rfl) hK) rfl rfl hl.1 rfl (lv_room (Nat.le_of_ble_eq_true rfl)) dM_fault_1 ⟨Nat.le_of_ble_eq_true rfl, Nat.le_of_ble_eq_true rfl⟩) ?_
  refine lv_if_ne (tgt := 9) hx hb dM_fault_4 (by decide) (fun c_4 => ?_) (fun c_4 => ?_)
  · skip
    rw [← nI_0] at c_4
    have c_4 : ¬ 1 = 0 := n_ne c_4
    refine lv_lload_n hx hb dM_fault_9 rfl (lv_at hl 1 rfl) ?_
    refine lv_bipush (v := nI 24) hx hb dM_fault_10 (by decide) ?_
    refine lv_lshr (v := lN (v / 16777216)) hx hb dM_fault_12 (l_shr v 24 (by omega) (by omega)) ?_
    refine lv_l2i (v := nI (v / 16777216)) hx hb dM_fault_13 (lN_i _) ?_
    refine lv_istore_n (lv' := [(3, .int (nI (v / 16777216))), (0, .ref o), (1, .long (lN v))]) hx hb dM_fault_14 rfl hl (by decide) rfl (fun ls hl => ?_)
    refine lv_lload_n hx hb dM_fault_15 rfl (lv_at hl 2 rfl) ?_
    refine lv_ldc2 (v := 8388607) hx hb hown (hts (.constantLong RM 68 8388607) (by decide +kernel)) dM_fault_16 ?_
    refine tp_l (y := lN 8388607) (by decide) ?_
    refine lv_land hx hb dM_fault_19 ?_
    refine tp_l (y := lN (v % 8388608)) (g_mask (p := 8388608) (s := 23) rfl (by omega) (by omega)) ?_
    refine lv_lstore (lv' := [(4, .long (lN (v % 8388608))), (3, .int (nI (v / 16777216))), (0, .ref o), (1, .long (lN v))]) hx hb dM_fault_20 hl (by decide) rfl (fun ls hl => ?_)
    refine lv_lload_n hx hb dM_fault_22 rfl (lv_at hl 3 rfl) ?_
    refine lv_bipush (v := nI 23) hx hb dM_fault_23 (by decide) ?_
    refine lv_lshr (v := lN (v / 8388608)) hx hb dM_fault_25 (l_shr v 23 (by omega) (by omega)) ?_
    refine lv_lconst (v := lN 1) hx hb dM_fault_26 (by decide) ?_
    refine lv_land hx hb dM_fault_27 ?_
    refine tp_l (y := lN (v / 8388608 % 2)) (g_mask (p := 2) (s := 1) rfl (by omega) (by omega)) ?_
    refine lv_lconst (v := lN 1) hx hb dM_fault_28 (by decide) ?_
    refine lc_ne (tgt := 42) hx hb dM_fault_29 dM_fault_30 (by decide) (fun c_30 => ?_) (fun c_30 => ?_)
    · skip
      have c_30 : ¬ (v / 8388608 % 2) = 1 := l_ne c_30
      have jn_80 : (¬ (v / 8388608 % 2 = 1 ∧ 0 < v % 8388608)) → ∀ (H : Heap) (locs : List Loc), va_P D vwCl [(o, .inr (3, [.int (nI mo), .int (nI n), .ref aP, .ref aH, .ref aT, .ref aB, .ref aZ, .ref aS, .ref aa, .ref ab, .ref ac, .ref aR])), (aa, .inl (cI, 40, .inl (nF α))), (ab, .inl (cI, 40, .inl (nF β)))] H → va_D A [(o, .inr (3, [.int (nI mo), .int (nI n), .ref aP, .ref aH, .ref aT, .ref aB, .ref aZ, .ref aS, .ref aa, .ref ab, .ref ac, .ref aR])), (aa, .inl (cI, 40, .inl (nF α))), (ab, .inl (cI, 40, .inl (nF β)))] → va_S A s.heap H locs → ∀ (ls : Array Slot), lv_has ls 7 [(0, .ref o), (1, .long (lN v)), (3, .int (nI (v / 16777216))), (4, .long (lN (v % 8388608)))] → W p l e rm_k_fault s m args below meth c H locs 0 0 Q (F0 m 80 ls [.int (nI (r_own (v % 8388608)))]) := by
        intro h1 H locs hP hD hS ls hl
        have how := r_own_le (v % 8388608)
        refine lv_istore (lv' := [(6, .int (nI (r_own (v % 8388608)))), (0, .ref o), (1, .long (lN v)), (3, .int (nI (v / 16777216))), (4, .long (lN (v % 8388608)))]) hx hb dM_fault_80 hl (by decide) rfl (fun ls hl => ?_)
        refine lv_iload hx hb dM_fault_82 (lv_at hl 0 rfl) ?_
        refine lv_iload_n hx hb dM_fault_84 rfl (lv_at hl 3 rfl) ?_
        refine lv_iadd hx hb dM_fault_85 ?_
        refine tp_i (y := nI ((r_own (v % 8388608)) + (v / 16777216))) (nI_add _ _) ?_
        refine lv_iconst (v := nI 3) hx hb dM_fault_86 (by decide) ?_
        refine lv_isub hx hb dM_fault_87 ?_
        refine lv_if_le (tgt := 96) hx hb dM_fault_88 (by decide) (fun c_88 => ?_) (fun c_88 => ?_)
        · skip
          have c_88 : r_own (v % 8388608) + v / 16777216 ≤ 3 := n_sle c_88 (by omega) (by omega)
          refine lv_iconst (v := nI 2) hx hb dM_fault_96 (by decide) ?_
          exact rw_iret (w := [(o, .inr (3, [.int (nI mo), .int (nI n), .ref aP, .ref aH, .ref aT, .ref aB, .ref aZ, .ref aS, .ref aa, .ref ab, .ref ac, .ref aR])), (aa, .inl (cI, 40, .inl (nF α))), (ab, .inl (cI, 40, .inl (nF β)))]) hQ hx hb hr hlocks dM_fault_97 (hP.sub [0, 1, 2] rfl) (hD.sub [0, 1, 2] (by decide) rfl) hS ⟨congrArg (fun z => some (Value.int z)) (by unfold r_fault; rw [if_neg h1, if_pos c_88]), α, β, hα8, hβ8, rfl⟩
        · skip
          have c_88 : 3 < r_own (v % 8388608) + v / 16777216 := n_snle c_88 (by omega) (by omega)
          refine lv_iload hx hb dM_fault_91 (lv_at hl 0 rfl) ?_
          refine lv_if_ne (tgt := 98) hx hb dM_fault_93 (by decide) (fun c_93 => ?_) (fun c_93 => ?_)
          · skip
            rw [← nI_0] at c_93
            have c_93 : ¬ (r_own (v % 8388608)) = 0 := n_ne c_93
            refine lv_iload hx hb dM_fault_98 (lv_at hl 0 rfl) ?_
            refine lv_iload_n hx hb dM_fault_100 rfl (lv_at hl 3 rfl) ?_
            refine lv_iadd hx hb dM_fault_101 ?_
            refine tp_i (y := nI ((r_own (v % 8388608)) + (v / 16777216))) (nI_add _ _) ?_
            refine lv_iconst (v := nI 3) hx hb dM_fault_102 (by decide) ?_
            refine lv_isub hx hb dM_fault_103 ?_
            refine tp_i (y := nI (((r_own (v % 8388608)) + (v / 16777216)) - 3)) (pk_sub (by omega)) ?_
            refine lv_bipush (v := nI 32) hx hb dM_fault_104 (by decide) ?_
            refine lv_icmp_le (tgt := 111) hx hb dM_fault_106 (by decide) (fun c_106 => ?_) (fun c_106 => ?_)
            · skip
              have c_106 : (((r_own (v % 8388608)) + (v / 16777216)) - 3) ≤ 32 := n_le c_106 (by omega) (by omega)
              refine lv_lload_n hx hb dM_fault_111 rfl (lv_at hl 2 rfl) ?_
              refine lv_aload_n hx hb dM_fault_112 rfl (lv_at hl 1 rfl) ?_
              refine va_get (D := D) (ci := 3) (v := .ref aa) (C := RM) (T := TM) (N := 12) hx hb hts iM_fault_M hown hK hP 0 rfl rfl 8 (by decide) (hts (.fieldLink RM 30 "TreeDeskModel" "a" "[I") (by decide +kernel)) (fun _ h9 => h9) rfl dM_fault_113 ?_
              refine rw_k (wc := [(aa, .inl (cI, 40, .inl (nF α)))]) (wr := [(o, .inr (3, [.int (nI mo), .int (nI n), .ref aP, .ref aH, .ref aT, .ref aB, .ref aZ, .ref aS, .ref aa, .ref ab, .ref ac, .ref aR])), (ab, .inl (cI, 40, .inl (nF β)))]) (va_runS (As := [.long (lN v), .ref aa]) (rest := []) ⟨hx, hb, hml, hown, hts⟩ (k_open l D cI cJ cZ aa α v hv H.size) (va_cwS 2 hts gM_fault_M_open_57 rfl rfl rfl (by decide +kernel) ⟨Nat.le_of_ble_eq_true rfl, Nat.le_of_ble_eq_true rfl⟩) (rw_preS (hP.sub [1] rfl) hK (hD.sub [1] (by decide) rfl)) rfl rfl hl.1 rfl (lv_room (Nat.le_of_ble_eq_true rfl)) dM_fault_116 ⟨Nat.le_of_ble_eq_true rfl, Nat.le_of_ble_eq_true rfl⟩) hP hD hS hA [1] [0, 2] rfl rfl (by decide) (by decide) (fun v9 w9 H locs hp9 hP hD hS => ?_)
              obtain ⟨rfl, rfl⟩ := hp9
              have hP : va_P D vwCl [(o, .inr (3, [.int (nI mo), .int (nI n), .ref aP, .ref aH, .ref aT, .ref aB, .ref aZ, .ref aS, .ref aa, .ref ab, .ref ac, .ref aR])), (ab, .inl (cI, 40, .inl (nF β))), (aa, .inl (cI, 40, .inl (nF (r_open v α))))] H := hP
              have hD : va_D A [(o, .inr (3, [.int (nI mo), .int (nI n), .ref aP, .ref aH, .ref aT, .ref aB, .ref aZ, .ref aS, .ref aa, .ref ab, .ref ac, .ref aR])), (ab, .inl (cI, 40, .inl (nF β))), (aa, .inl (cI, 40, .inl (nF (r_open v α))))] := hD
              refine W.eq (g2 := F0 m 119 ls []) rfl ?_
              refine lv_ldc2 (v := 545259519) hx hb hown (hts (.constantLong RM 48 545259519) (by decide +kernel)) dM_fault_119 ?_
              refine tp_l (y := lN 545259519) (by decide) ?_
              refine lv_aload_n hx hb dM_fault_122 rfl (lv_at hl 1 rfl) ?_
              refine va_get (D := D) (ci := 3) (v := .ref ab) (C := RM) (T := TM) (N := 12) hx hb hts iM_fault_M hown hK hP 0 rfl rfl 9 (by decide) (hts (.fieldLink RM 33 "TreeDeskModel" "b" "[I") (by decide +kernel)) (fun _ h9 => h9) rfl dM_fault_123 ?_
              refine rw_k (wc := [(ab, .inl (cI, 40, .inl (nF β)))]) (wr := [(o, .inr (3, [.int (nI mo), .int (nI n), .ref aP, .ref aH, .ref aT, .ref aB, .ref aZ, .ref aS, .ref aa, .ref ab, .ref ac, .ref aR])), (aa, .inl (cI, 40, .inl (nF (r_open v α))))]) (va_runS (As := [.long (lN 545259519), .ref ab]) (rest := []) ⟨hx, hb, hml, hown, hts⟩ (k_open l D cI cJ cZ ab β 545259519 (by omega) H.size) (va_cwS 2 hts gM_fault_M_open_57 rfl rfl rfl (by decide +kernel) ⟨Nat.le_of_ble_eq_true rfl, Nat.le_of_ble_eq_true rfl⟩) (rw_preS (hP.sub [1] rfl) hK (hD.sub [1] (by decide) rfl)) rfl rfl hl.1 rfl (lv_room (Nat.le_of_ble_eq_true rfl)) dM_fault_126 ⟨Nat.le_of_ble_eq_true rfl, Nat.le_of_ble_eq_true rfl⟩) hP hD hS hA [1] [0, 2] rfl rfl (by decide) (by decide) (fun v9 w9 H locs hp9 hP hD hS => ?_)
              obtain ⟨rfl, rfl⟩ := hp9
              have hP : va_P D vwCl [(o, .inr (3, [.int (nI mo), .int (nI n), .ref aP, .ref aH, .ref aT, .ref aB, .ref aZ, .ref aS, .ref aa, .ref ab, .ref ac, .ref aR])), (aa, .inl (cI, 40, .inl (nF (r_open v α)))), (ab, .inl (cI, 40, .inl (nF (r_open 545259519 β))))] H := hP
              have hD : va_D A [(o, .inr (3, [.int (nI mo), .int (nI n), .ref aP, .ref aH, .ref aT, .ref aB, .ref aZ, .ref aS, .ref aa, .ref ab, .ref ac, .ref aR])), (aa, .inl (cI, 40, .inl (nF (r_open v α)))), (ab, .inl (cI, 40, .inl (nF (r_open 545259519 β))))] := hD
              refine W.eq (g2 := F0 m 129 ls []) rfl ?_
              refine lv_aload_n hx hb dM_fault_129 rfl (lv_at hl 1 rfl) ?_
              refine va_get (D := D) (ci := 3) (v := .ref aa) (C := RM) (T := TM) (N := 12) hx hb hts iM_fault_M hown hK hP 0 rfl rfl 8 (by decide) (hts (.fieldLink RM 30 "TreeDeskModel" "a" "[I") (by decide +kernel)) (fun _ h9 => h9) rfl dM_fault_130 ?_
              refine lv_aload_n hx hb dM_fault_133 rfl (lv_at hl 1 rfl) ?_
              refine va_get (D := D) (ci := 3) (v := .ref ab) (C := RM) (T := TM) (N := 12) hx hb hts iM_fault_M hown hK hP 0 rfl rfl 9 (by decide) (hts (.fieldLink RM 33 "TreeDeskModel" "b" "[I") (by decide +kernel)) (fun _ h9 => h9) rfl dM_fault_134 ?_
              refine ro_ki (va_runS (As := [.ref aa, .ref ab]) (rest := []) ⟨hx, hb, hml, hown, hts⟩ (k_compareRows l D cI cJ cZ aa ab (r_open v α) (r_open 545259519 β) (r_open_by hα8) (r_open_by hβ8)) (va_cwS 2 hts gM_fault_M_compareRows_72 rfl rfl rfl (by decide +kernel) ⟨Nat.le_of_ble_eq_true rfl, Nat.le_of_ble_eq_true rfl⟩) (ro_preS (hP.sub [1, 2] rfl) hK) rfl rfl hl.1 rfl (lv_room (Nat.le_of_ble_eq_true rfl)) dM_fault_137 ⟨Nat.le_of_ble_eq_true rfl, Nat.le_of_ble_eq_true rfl⟩) ?_
              refine lv_if_le (tgt := 147) hx hb dM_fault_140 (by decide) (fun c_140 => ?_) (fun c_140 => ?_)
              · skip
                refine lv_iconst (v := nI 0) hx hb dM_fault_147 (by decide) ?_
                exact rw_iret (w := [(o, .inr (3, [.int (nI mo), .int (nI n), .ref aP, .ref aH, .ref aT, .ref aB, .ref aZ, .ref aS, .ref aa, .ref ab, .ref ac, .ref aR])), (aa, .inl (cI, 40, .inl (nF (r_open v α)))), (ab, .inl (cI, 40, .inl (nF (r_open 545259519 β))))]) hQ hx hb hr hlocks dM_fault_148 (hP.sub [0, 1, 2] rfl) (hD.sub [0, 1, 2] (by decide) rfl) hS ⟨congrArg (fun z => some (Value.int z)) (by unfold r_fault; rw [if_neg h1, if_neg (by omega), if_neg c_93, if_pos c_106, if_pos c_140]), (r_open v α), (r_open 545259519 β), (r_open_by hα8), (r_open_by hβ8), rfl⟩
              · skip
                refine lv_iconst (v := nI 4) hx hb dM_fault_143 (by decide) ?_
                refine lv_goto (tgt := 148) hx hb dM_fault_144 (by decide) ?_
                exact rw_iret (w := [(o, .inr (3, [.int (nI mo), .int (nI n), .ref aP, .ref aH, .ref aT, .ref aB, .ref aZ, .ref aS, .ref aa, .ref ab, .ref ac, .ref aR])), (aa, .inl (cI, 40, .inl (nF (r_open v α)))), (ab, .inl (cI, 40, .inl (nF (r_open 545259519 β))))]) hQ hx hb hr hlocks dM_fault_148 (hP.sub [0, 1, 2] rfl) (hD.sub [0, 1, 2] (by decide) rfl) hS ⟨congrArg (fun z => some (Value.int z)) (by unfold r_fault; rw [if_neg h1, if_neg (by omega), if_neg c_93, if_pos c_106, if_neg c_140]), (r_open v α), (r_open 545259519 β), (r_open_by hα8), (r_open_by hβ8), rfl⟩
            · skip
              have c_106 : 32 < (((r_own (v % 8388608)) + (v / 16777216)) - 3) := n_nle c_106 (by omega) (by omega)
              refine lv_iconst (v := nI 3) hx hb dM_fault_109 (by decide) ?_
              exact rw_iret (w := [(o, .inr (3, [.int (nI mo), .int (nI n), .ref aP, .ref aH, .ref aT, .ref aB, .ref aZ, .ref aS, .ref aa, .ref ab, .ref ac, .ref aR])), (aa, .inl (cI, 40, .inl (nF α))), (ab, .inl (cI, 40, .inl (nF β)))]) hQ hx hb hr hlocks dM_fault_110 (hP.sub [0, 1, 2] rfl) (hD.sub [0, 1, 2] (by decide) rfl) hS ⟨congrArg (fun z => some (Value.int z)) (by unfold r_fault; rw [if_neg h1, if_neg (by omega), if_neg c_93, if_neg (by omega)]), α, β, hα8, hβ8, rfl⟩
          · skip
            rw [← nI_0] at c_93
            have c_93 : (r_own (v % 8388608)) = 0 := n_eq c_93 (by omega) (by omega)
            refine lv_iconst (v := nI 2) hx hb dM_fault_96 (by decide) ?_
            exact rw_iret (w := [(o, .inr (3, [.int (nI mo), .int (nI n), .ref aP, .ref aH, .ref aT, .ref aB, .ref aZ, .ref aS, .ref aa, .ref ab, .ref ac, .ref aR])), (aa, .inl (cI, 40, .inl (nF α))), (ab, .inl (cI, 40, .inl (nF β)))]) hQ hx hb hr hlocks dM_fault_97 (hP.sub [0, 1, 2] rfl) (hD.sub [0, 1, 2] (by decide) rfl) hS ⟨congrArg (fun z => some (Value.int z)) (by unfold r_fault; rw [if_neg h1, if_neg (by omega), if_pos c_93]), α, β, hα8, hβ8, rfl⟩
      refine lv_lload hx hb dM_fault_42 (lv_at hl 0 rfl) ?_
      refine lv_lconst (v := lN 0) hx hb dM_fault_44 (by decide) ?_
      refine lc_ne (tgt := 53) hx hb dM_fault_45 dM_fault_46 (by decide) (fun c_46 => ?_) (fun c_46 => ?_)
      · skip
        have c_46 : ¬ (v % 8388608) = 0 := l_ne c_46
        refine lv_lload hx hb dM_fault_53 (lv_at hl 0 rfl) ?_
        refine lv_ldc2 (v := 256) hx hb hown (hts (.constantLong RM 76 256) (by decide +kernel)) dM_fault_55 ?_
        refine tp_l (y := lN 256) (by decide) ?_
        refine lc_ge (tgt := 66) hx hb dM_fault_58 dM_fault_59 (by decide) (fun c_59 => ?_) (fun c_59 => ?_)
        · skip
          have c_59 : 256 ≤ (v % 8388608) := l_le c_59 (by omega) (by omega)
          refine lv_lload hx hb dM_fault_66 (lv_at hl 0 rfl) ?_
          refine lv_ldc2 (v := 65536) hx hb hown (hts (.constantLong RM 88 65536) (by decide +kernel)) dM_fault_68 ?_
          refine tp_l (y := lN 65536) (by decide) ?_
          refine lc_ge (tgt := 79) hx hb dM_fault_71 dM_fault_72 (by decide) (fun c_72 => ?_) (fun c_72 => ?_)
          · skip
            have c_72 : 65536 ≤ (v % 8388608) := l_le c_72 (by omega) (by omega)
            refine lv_iconst (v := nI 3) hx hb dM_fault_79 (by decide) ?_
            refine tp_i (y := nI (r_own (v % 8388608))) (congrArg nI (by unfold r_own; rw [if_neg c_46, if_neg (by omega), if_neg (by omega)])) ?_
            exact jn_80 (by omega) _ _ (hP.sub [0, 1, 2] rfl) (hD.sub [0, 1, 2] (by decide) rfl) hS ls (lv_sub hl [2, 3, 1, 0] rfl)
          · skip
            have c_72 : (v % 8388608) < 65536 := l_nle c_72 (by omega) (by omega)
            refine lv_iconst (v := nI 2) hx hb dM_fault_75 (by decide) ?_
            refine tp_i (y := nI (r_own (v % 8388608))) (congrArg nI (by unfold r_own; rw [if_neg c_46, if_neg (by omega), if_pos c_72])) ?_
            refine lv_goto (tgt := 80) hx hb dM_fault_76 (by decide) ?_
            exact jn_80 (by omega) _ _ (hP.sub [0, 1, 2] rfl) (hD.sub [0, 1, 2] (by decide) rfl) hS ls (lv_sub hl [2, 3, 1, 0] rfl)
        · skip
          have c_59 : (v % 8388608) < 256 := l_nle c_59 (by omega) (by omega)
          refine lv_iconst (v := nI 1) hx hb dM_fault_62 (by decide) ?_
          refine tp_i (y := nI (r_own (v % 8388608))) (congrArg nI (by unfold r_own; rw [if_neg c_46, if_pos c_59])) ?_
          refine lv_goto (tgt := 80) hx hb dM_fault_63 (by decide) ?_
          exact jn_80 (by omega) _ _ (hP.sub [0, 1, 2] rfl) (hD.sub [0, 1, 2] (by decide) rfl) hS ls (lv_sub hl [2, 3, 1, 0] rfl)
      · skip
        have c_46 : (v % 8388608) = 0 := l_eq c_46 (by omega) (by omega)
        refine lv_iconst (v := nI 0) hx hb dM_fault_49 (by decide) ?_
        refine tp_i (y := nI (r_own (v % 8388608))) (congrArg nI (by unfold r_own; rw [if_pos c_46])) ?_
        refine lv_goto (tgt := 80) hx hb dM_fault_50 (by decide) ?_
        exact jn_80 (by omega) _ _ (hP.sub [0, 1, 2] rfl) (hD.sub [0, 1, 2] (by decide) rfl) hS ls (lv_sub hl [2, 3, 1, 0] rfl)
    · skip
      have c_30 : (v / 8388608 % 2) = 1 := l_eq c_30 (by omega) (by omega)
      refine lv_lload hx hb dM_fault_33 (lv_at hl 0 rfl) ?_
      refine lv_lconst (v := lN 0) hx hb dM_fault_35 (by decide) ?_
      refine lc_le (tgt := 42) hx hb dM_fault_36 dM_fault_37 (by decide) (fun c_37 => ?_) (fun c_37 => ?_)
      · skip
        have c_37 : (v % 8388608) ≤ 0 := l_le c_37 (by omega) (by omega)
        have jn_80 : (¬ (v / 8388608 % 2 = 1 ∧ 0 < v % 8388608)) → ∀ (H : Heap) (locs : List Loc), va_P D vwCl [(o, .inr (3, [.int (nI mo), .int (nI n), .ref aP, .ref aH, .ref aT, .ref aB, .ref aZ, .ref aS, .ref aa, .ref ab, .ref ac, .ref aR])), (aa, .inl (cI, 40, .inl (nF α))), (ab, .inl (cI, 40, .inl (nF β)))] H → va_D A [(o, .inr (3, [.int (nI mo), .int (nI n), .ref aP, .ref aH, .ref aT, .ref aB, .ref aZ, .ref aS, .ref aa, .ref ab, .ref ac, .ref aR])), (aa, .inl (cI, 40, .inl (nF α))), (ab, .inl (cI, 40, .inl (nF β)))] → va_S A s.heap H locs → ∀ (ls : Array Slot), lv_has ls 7 [(0, .ref o), (1, .long (lN v)), (3, .int (nI (v / 16777216))), (4, .long (lN (v % 8388608)))] → W p l e rm_k_fault s m args below meth c H locs 0 0 Q (F0 m 80 ls [.int (nI (r_own (v % 8388608)))]) := by
          intro h1 H locs hP hD hS ls hl
          have how := r_own_le (v % 8388608)
          refine lv_istore (lv' := [(6, .int (nI (r_own (v % 8388608)))), (0, .ref o), (1, .long (lN v)), (3, .int (nI (v / 16777216))), (4, .long (lN (v % 8388608)))]) hx hb dM_fault_80 hl (by decide) rfl (fun ls hl => ?_)
          refine lv_iload hx hb dM_fault_82 (lv_at hl 0 rfl) ?_
          refine lv_iload_n hx hb dM_fault_84 rfl (lv_at hl 3 rfl) ?_
          refine lv_iadd hx hb dM_fault_85 ?_
          refine tp_i (y := nI ((r_own (v % 8388608)) + (v / 16777216))) (nI_add _ _) ?_
          refine lv_iconst (v := nI 3) hx hb dM_fault_86 (by decide) ?_
          refine lv_isub hx hb dM_fault_87 ?_
          refine lv_if_le (tgt := 96) hx hb dM_fault_88 (by decide) (fun c_88 => ?_) (fun c_88 => ?_)
          · skip
            have c_88 : r_own (v % 8388608) + v / 16777216 ≤ 3 := n_sle c_88 (by omega) (by omega)
            refine lv_iconst (v := nI 2) hx hb dM_fault_96 (by decide) ?_
            exact rw_iret (w := [(o, .inr (3, [.int (nI mo), .int (nI n), .ref aP, .ref aH, .ref aT, .ref aB, .ref aZ, .ref aS, .ref aa, .ref ab, .ref ac, .ref aR])), (aa, .inl (cI, 40, .inl (nF α))), (ab, .inl (cI, 40, .inl (nF β)))]) hQ hx hb hr hlocks dM_fault_97 (hP.sub [0, 1, 2] rfl) (hD.sub [0, 1, 2] (by decide) rfl) hS ⟨congrArg (fun z => some (Value.int z)) (by unfold r_fault; rw [if_neg h1, if_pos c_88]), α, β, hα8, hβ8, rfl⟩
          · skip
            have c_88 : 3 < r_own (v % 8388608) + v / 16777216 := n_snle c_88 (by omega) (by omega)
            refine lv_iload hx hb dM_fault_91 (lv_at hl 0 rfl) ?_
            refine lv_if_ne (tgt := 98) hx hb dM_fault_93 (by decide) (fun c_93 => ?_) (fun c_93 => ?_)
            · skip
              rw [← nI_0] at c_93
              have c_93 : ¬ (r_own (v % 8388608)) = 0 := n_ne c_93
              refine lv_iload hx hb dM_fault_98 (lv_at hl 0 rfl) ?_
              refine lv_iload_n hx hb dM_fault_100 rfl (lv_at hl 3 rfl) ?_
              refine lv_iadd hx hb dM_fault_101 ?_
              refine tp_i (y := nI ((r_own (v % 8388608)) + (v / 16777216))) (nI_add _ _) ?_
              refine lv_iconst (v := nI 3) hx hb dM_fault_102 (by decide) ?_
              refine lv_isub hx hb dM_fault_103 ?_
              refine tp_i (y := nI (((r_own (v % 8388608)) + (v / 16777216)) - 3)) (pk_sub (by omega)) ?_
              refine lv_bipush (v := nI 32) hx hb dM_fault_104 (by decide) ?_
              refine lv_icmp_le (tgt := 111) hx hb dM_fault_106 (by decide) (fun c_106 => ?_) (fun c_106 => ?_)
              · skip
                have c_106 : (((r_own (v % 8388608)) + (v / 16777216)) - 3) ≤ 32 := n_le c_106 (by omega) (by omega)
                refine lv_lload_n hx hb dM_fault_111 rfl (lv_at hl 2 rfl) ?_
                refine lv_aload_n hx hb dM_fault_112 rfl (lv_at hl 1 rfl) ?_
                refine va_get (D := D) (ci := 3) (v := .ref aa) (C := RM) (T := TM) (N := 12) hx hb hts iM_fault_M hown hK hP 0 rfl rfl 8 (by decide) (hts (.fieldLink RM 30 "TreeDeskModel" "a" "[I") (by decide +kernel)) (fun _ h9 => h9) rfl dM_fault_113 ?_
                refine rw_k (wc := [(aa, .inl (cI, 40, .inl (nF α)))]) (wr := [(o, .inr (3, [.int (nI mo), .int (nI n), .ref aP, .ref aH, .ref aT, .ref aB, .ref aZ, .ref aS, .ref aa, .ref ab, .ref ac, .ref aR])), (ab, .inl (cI, 40, .inl (nF β)))]) (va_runS (As := [.long (lN v), .ref aa]) (rest := []) ⟨hx, hb, hml, hown, hts⟩ (k_open l D cI cJ cZ aa α v hv H.size) (va_cwS 2 hts gM_fault_M_open_57 rfl rfl rfl (by decide +kernel) ⟨Nat.le_of_ble_eq_true rfl, Nat.le_of_ble_eq_true rfl⟩) (rw_preS (hP.sub [1] rfl) hK (hD.sub [1] (by decide) rfl)) rfl rfl hl.1 rfl (lv_room (Nat.le_of_ble_eq_true rfl)) dM_fault_116 ⟨Nat.le_of_ble_eq_true rfl, Nat.le_of_ble_eq_true rfl⟩) hP hD hS hA [1] [0, 2] rfl rfl (by decide) (by decide) (fun v9 w9 H locs hp9 hP hD hS => ?_)
                obtain ⟨rfl, rfl⟩ := hp9
                have hP : va_P D vwCl [(o, .inr (3, [.int (nI mo), .int (nI n), .ref aP, .ref aH, .ref aT, .ref aB, .ref aZ, .ref aS, .ref aa, .ref ab, .ref ac, .ref aR])), (ab, .inl (cI, 40, .inl (nF β))), (aa, .inl (cI, 40, .inl (nF (r_open v α))))] H := hP
                have hD : va_D A [(o, .inr (3, [.int (nI mo), .int (nI n), .ref aP, .ref aH, .ref aT, .ref aB, .ref aZ, .ref aS, .ref aa, .ref ab, .ref ac, .ref aR])), (ab, .inl (cI, 40, .inl (nF β))), (aa, .inl (cI, 40, .inl (nF (r_open v α))))] := hD
                refine W.eq (g2 := F0 m 119 ls []) rfl ?_
                refine lv_ldc2 (v := 545259519) hx hb hown (hts (.constantLong RM 48 545259519) (by decide +kernel)) dM_fault_119 ?_
                refine tp_l (y := lN 545259519) (by decide) ?_
                refine lv_aload_n hx hb dM_fault_122 rfl (lv_at hl 1 rfl) ?_
                refine va_get (D := D) (ci := 3) (v := .ref ab) (C := RM) (T := TM) (N := 12) hx hb hts iM_fault_M hown hK hP 0 rfl rfl 9 (by decide) (hts (.fieldLink RM 33 "TreeDeskModel" "b" "[I") (by decide +kernel)) (fun _ h9 => h9) rfl dM_fault_123 ?_
                refine rw_k (wc := [(ab, .inl (cI, 40, .inl (nF β)))]) (wr := [(o, .inr (3, [.int (nI mo), .int (nI n), .ref aP, .ref aH, .ref aT, .ref aB, .ref aZ, .ref aS, .ref aa, .ref ab, .ref ac, .ref aR])), (aa, .inl (cI, 40, .inl (nF (r_open v α))))]) (va_runS (As := [.long (lN 545259519), .ref ab]) (rest := []) ⟨hx, hb, hml, hown, hts⟩ (k_open l D cI cJ cZ ab β 545259519 (by omega) H.size) (va_cwS 2 hts gM_fault_M_open_57 rfl rfl rfl (by decide +kernel) ⟨Nat.le_of_ble_eq_true rfl, Nat.le_of_ble_eq_true rfl⟩) (rw_preS (hP.sub [1] rfl) hK (hD.sub [1] (by decide) rfl)) rfl rfl hl.1 rfl (lv_room (Nat.le_of_ble_eq_true rfl)) dM_fault_126 ⟨Nat.le_of_ble_eq_true rfl, Nat.le_of_ble_eq_true rfl⟩) hP hD hS hA [1] [0, 2] rfl rfl (by decide) (by decide) (fun v9 w9 H locs hp9 hP hD hS => ?_)
                obtain ⟨rfl, rfl⟩ := hp9
                have hP : va_P D vwCl [(o, .inr (3, [.int (nI mo), .int (nI n), .ref aP, .ref aH, .ref aT, .ref aB, .ref aZ, .ref aS, .ref aa, .ref ab, .ref ac, .ref aR])), (aa, .inl (cI, 40, .inl (nF (r_open v α)))), (ab, .inl (cI, 40, .inl (nF (r_open 545259519 β))))] H := hP
                have hD : va_D A [(o, .inr (3, [.int (nI mo), .int (nI n), .ref aP, .ref aH, .ref aT, .ref aB, .ref aZ, .ref aS, .ref aa, .ref ab, .ref ac, .ref aR])), (aa, .inl (cI, 40, .inl (nF (r_open v α)))), (ab, .inl (cI, 40, .inl (nF (r_open 545259519 β))))] := hD
                refine W.eq (g2 := F0 m 129 ls []) rfl ?_
                refine lv_aload_n hx hb dM_fault_129 rfl (lv_at hl 1 rfl) ?_
                refine va_get (D := D) (ci := 3) (v := .ref aa) (C := RM) (T := TM) (N := 12) hx hb hts iM_fault_M hown hK hP 0 rfl rfl 8 (by decide) (hts (.fieldLink RM 30 "TreeDeskModel" "a" "[I") (by decide +kernel)) (fun _ h9 => h9) rfl dM_fault_130 ?_
                refine lv_aload_n hx hb dM_fault_133 rfl (lv_at hl 1 rfl) ?_
                refine va_get (D := D) (ci := 3) (v := .ref ab) (C := RM) (T := TM) (N := 12) hx hb hts iM_fault_M hown hK hP 0 rfl rfl 9 (by decide) (hts (.fieldLink RM 33 "TreeDeskModel" "b" "[I") (by decide +kernel)) (fun _ h9 => h9) rfl dM_fault_134 ?_
                refine ro_ki (va_runS (As := [.ref aa, .ref ab]) (rest := []) ⟨hx, hb, hml, hown, hts⟩ (k_compareRows l D cI cJ cZ aa ab (r_open v α) (r_open 545259519 β) (r_open_by hα8) (r_open_by hβ8)) (va_cwS 2 hts gM_fault_M_compareRows_72 rfl rfl rfl (by decide +kernel) ⟨Nat.le_of_ble_eq_true rfl, Nat.le_of_ble_eq_true rfl⟩) (ro_preS (hP.sub [1, 2] rfl) hK) rfl rfl hl.1 rfl (lv_room (Nat.le_of_ble_eq_true rfl)) dM_fault_137 ⟨Nat.le_of_ble_eq_true rfl, Nat.le_of_ble_eq_true rfl⟩) ?_
                refine lv_if_le (tgt := 147) hx hb dM_fault_140 (by decide) (fun c_140 => ?_) (fun c_140 => ?_)
                · skip
                  refine lv_iconst (v := nI 0) hx hb dM_fault_147 (by decide) ?_
                  exact rw_iret (w := [(o, .inr (3, [.int (nI mo), .int (nI n), .ref aP, .ref aH, .ref aT, .ref aB, .ref aZ, .ref aS, .ref aa, .ref ab, .ref ac, .ref aR])), (aa, .inl (cI, 40, .inl (nF (r_open v α)))), (ab, .inl (cI, 40, .inl (nF (r_open 545259519 β))))]) hQ hx hb hr hlocks dM_fault_148 (hP.sub [0, 1, 2] rfl) (hD.sub [0, 1, 2] (by decide) rfl) hS ⟨congrArg (fun z => some (Value.int z)) (by unfold r_fault; rw [if_neg h1, if_neg (by omega), if_neg c_93, if_pos c_106, if_pos c_140]), (r_open v α), (r_open 545259519 β), (r_open_by hα8), (r_open_by hβ8), rfl⟩
                · skip
                  refine lv_iconst (v := nI 4) hx hb dM_fault_143 (by decide) ?_
                  refine lv_goto (tgt := 148) hx hb dM_fault_144 (by decide) ?_
                  exact rw_iret (w := [(o, .inr (3, [.int (nI mo), .int (nI n), .ref aP, .ref aH, .ref aT, .ref aB, .ref aZ, .ref aS, .ref aa, .ref ab, .ref ac, .ref aR])), (aa, .inl (cI, 40, .inl (nF (r_open v α)))), (ab, .inl (cI, 40, .inl (nF (r_open 545259519 β))))]) hQ hx hb hr hlocks dM_fault_148 (hP.sub [0, 1, 2] rfl) (hD.sub [0, 1, 2] (by decide) rfl) hS ⟨congrArg (fun z => some (Value.int z)) (by unfold r_fault; rw [if_neg h1, if_neg (by omega), if_neg c_93, if_pos c_106, if_neg c_140]), (r_open v α), (r_open 545259519 β), (r_open_by hα8), (r_open_by hβ8), rfl⟩
              · skip
                have c_106 : 32 < (((r_own (v % 8388608)) + (v / 16777216)) - 3) := n_nle c_106 (by omega) (by omega)
                refine lv_iconst (v := nI 3) hx hb dM_fault_109 (by decide) ?_
                exact rw_iret (w := [(o, .inr (3, [.int (nI mo), .int (nI n), .ref aP, .ref aH, .ref aT, .ref aB, .ref aZ, .ref aS, .ref aa, .ref ab, .ref ac, .ref aR])), (aa, .inl (cI, 40, .inl (nF α))), (ab, .inl (cI, 40, .inl (nF β)))]) hQ hx hb hr hlocks dM_fault_110 (hP.sub [0, 1, 2] rfl) (hD.sub [0, 1, 2] (by decide) rfl) hS ⟨congrArg (fun z => some (Value.int z)) (by unfold r_fault; rw [if_neg h1, if_neg (by omega), if_neg c_93, if_neg (by omega)]), α, β, hα8, hβ8, rfl⟩
            · skip
              rw [← nI_0] at c_93
              have c_93 : (r_own (v % 8388608)) = 0 := n_eq c_93 (by omega) (by omega)
              refine lv_iconst (v := nI 2) hx hb dM_fault_96 (by decide) ?_
              exact rw_iret (w := [(o, .inr (3, [.int (nI mo), .int (nI n), .ref aP, .ref aH, .ref aT, .ref aB, .ref aZ, .ref aS, .ref aa, .ref ab, .ref ac, .ref aR])), (aa, .inl (cI, 40, .inl (nF α))), (ab, .inl (cI, 40, .inl (nF β)))]) hQ hx hb hr hlocks dM_fault_97 (hP.sub [0, 1, 2] rfl) (hD.sub [0, 1, 2] (by decide) rfl) hS ⟨congrArg (fun z => some (Value.int z)) (by unfold r_fault; rw [if_neg h1, if_neg (by omega), if_pos c_93]), α, β, hα8, hβ8, rfl⟩
        refine lv_lload hx hb dM_fault_42 (lv_at hl 0 rfl) ?_
        refine lv_lconst (v := lN 0) hx hb dM_fault_44 (by decide) ?_
        refine lc_ne (tgt := 53) hx hb dM_fault_45 dM_fault_46 (by decide) (fun c_46 => ?_) (fun c_46 => ?_)
        · skip
          have c_46 : ¬ (v % 8388608) = 0 := l_ne c_46
          refine lv_lload hx hb dM_fault_53 (lv_at hl 0 rfl) ?_
          refine lv_ldc2 (v := 256) hx hb hown (hts (.constantLong RM 76 256) (by decide +kernel)) dM_fault_55 ?_
          refine tp_l (y := lN 256) (by decide) ?_
          refine lc_ge (tgt := 66) hx hb dM_fault_58 dM_fault_59 (by decide) (fun c_59 => ?_) (fun c_59 => ?_)
          · skip
            have c_59 : 256 ≤ (v % 8388608) := l_le c_59 (by omega) (by omega)
            refine lv_lload hx hb dM_fault_66 (lv_at hl 0 rfl) ?_
            refine lv_ldc2 (v := 65536) hx hb hown (hts (.constantLong RM 88 65536) (by decide +kernel)) dM_fault_68 ?_
            refine tp_l (y := lN 65536) (by decide) ?_
            refine lc_ge (tgt := 79) hx hb dM_fault_71 dM_fault_72 (by decide) (fun c_72 => ?_) (fun c_72 => ?_)
            · skip
              have c_72 : 65536 ≤ (v % 8388608) := l_le c_72 (by omega) (by omega)
              refine lv_iconst (v := nI 3) hx hb dM_fault_79 (by decide) ?_
              refine tp_i (y := nI (r_own (v % 8388608))) (congrArg nI (by unfold r_own; rw [if_neg c_46, if_neg (by omega), if_neg (by omega)])) ?_
              exact jn_80 (by omega) _ _ (hP.sub [0, 1, 2] rfl) (hD.sub [0, 1, 2] (by decide) rfl) hS ls (lv_sub hl [2, 3, 1, 0] rfl)
            · skip
              have c_72 : (v % 8388608) < 65536 := l_nle c_72 (by omega) (by omega)
              refine lv_iconst (v := nI 2) hx hb dM_fault_75 (by decide) ?_
              refine tp_i (y := nI (r_own (v % 8388608))) (congrArg nI (by unfold r_own; rw [if_neg c_46, if_neg (by omega), if_pos c_72])) ?_
              refine lv_goto (tgt := 80) hx hb dM_fault_76 (by decide) ?_
              exact jn_80 (by omega) _ _ (hP.sub [0, 1, 2] rfl) (hD.sub [0, 1, 2] (by decide) rfl) hS ls (lv_sub hl [2, 3, 1, 0] rfl)
          · skip
            have c_59 : (v % 8388608) < 256 := l_nle c_59 (by omega) (by omega)
            refine lv_iconst (v := nI 1) hx hb dM_fault_62 (by decide) ?_
            refine tp_i (y := nI (r_own (v % 8388608))) (congrArg nI (by unfold r_own; rw [if_neg c_46, if_pos c_59])) ?_
            refine lv_goto (tgt := 80) hx hb dM_fault_63 (by decide) ?_
            exact jn_80 (by omega) _ _ (hP.sub [0, 1, 2] rfl) (hD.sub [0, 1, 2] (by decide) rfl) hS ls (lv_sub hl [2, 3, 1, 0] rfl)
        · skip
          have c_46 : (v % 8388608) = 0 := l_eq c_46 (by omega) (by omega)
          refine lv_iconst (v := nI 0) hx hb dM_fault_49 (by decide) ?_
          refine tp_i (y := nI (r_own (v % 8388608))) (congrArg nI (by unfold r_own; rw [if_pos c_46])) ?_
          refine lv_goto (tgt := 80) hx hb dM_fault_50 (by decide) ?_
          exact jn_80 (by omega) _ _ (hP.sub [0, 1, 2] rfl) (hD.sub [0, 1, 2] (by decide) rfl) hS ls (lv_sub hl [2, 3, 1, 0] rfl)
      · skip
        have c_37 : 0 < (v % 8388608) := l_nle c_37 (by omega) (by omega)
        refine lv_iconst (v := nI 1) hx hb dM_fault_40 (by decide) ?_
        exact rw_iret (w := [(o, .inr (3, [.int (nI mo), .int (nI n), .ref aP, .ref aH, .ref aT, .ref aB, .ref aZ, .ref aS, .ref aa, .ref ab, .ref ac, .ref aR])), (aa, .inl (cI, 40, .inl (nF α))), (ab, .inl (cI, 40, .inl (nF β)))]) hQ hx hb hr hlocks dM_fault_41 (hP.sub [0, 1, 2] rfl) (hD.sub [0, 1, 2] (by decide) rfl) hS ⟨congrArg (fun z => some (Value.int z)) (by unfold r_fault; rw [if_pos ⟨c_30, c_37⟩]), α, β, hα8, hβ8, rfl⟩
  · skip
    rw [← nI_0] at c_4
    have c_4 : 1 = 0 := n_eq c_4 (by omega) (by omega)
    omega

abbrev rm_k_fault_no : Room := { frames := 2, cells := 0, slots := 0, locals := 48 }
set_option maxRecDepth 100000 in
set_option maxHeartbeats 4000000 in
theorem k_fault_no (l : Launch) (D : va_G) (cI cJ cZ : ClassId) (o : Nat) (mo : Nat) (n : Nat) (aP : Nat) (aH : Nat) (aT : Nat) (aB : Nat) (aZ : Nat) (aS : Nat) (aa : Nat) (ab : Nat) (ac : Nat) (aR : Nat) (b : Int64) (hb9 : ¬ (0 ≤ b ∧ b ≤ 4294967295)) : ro_C l yM_fault wM_fault rm_k_fault_no D vwCl (gT cI cJ cZ) [.ref o, .long b] [(o, .inr (3, [.int (nI mo), .int (nI n), .ref aP, .ref aH, .ref aT, .ref aB, .ref aZ, .ref aS, .ref aa, .ref ab, .ref ac, .ref aR]))] (some (.int (-1))) := by
  refine ro_of (cc := cM_fault) (maxL := 7) (ret := some .int) (by decide) rfl (Nat.le_of_ble_eq_true rfl) ?_
  intro p e s m args below meth c Q ls hx hb hr hml hown hts hlocks hK hP hl hQ
  have hl : lv_has ls 7 [(0, .ref o), (1, .long b)] := hl
  have hown : s.vm.findClass RM = some m.cls := hown
  refine lv_lload_n hx hb dM_fault_0 rfl (lv_at hl 1 rfl) ?_
  refine ro_ki (va_runS (As := [.long b]) (rest := []) ⟨hx, hb, hml, hown, hts⟩ (k_isBits_no l D cI cJ cZ b hb9) (va_cwS 1 hts gM_fault_M_isBits_84 rfl rfl rfl (by decide +kernel) ⟨Nat.le_of_ble_eq_true rfl, Nat.le_of_ble_eq_true rfl⟩) (ro_preS (hP.sub [] rfl) hK) rfl rfl hl.1 rfl (lv_room (Nat.le_of_ble_eq_true rfl)) dM_fault_1 ⟨Nat.le_of_ble_eq_true rfl, Nat.le_of_ble_eq_true rfl⟩) ?_
  refine lv_if_ne (tgt := 9) hx hb dM_fault_4 (by decide) (fun c_4 => ?_) (fun c_4 => ?_)
  · skip
    rw [← nI_0] at c_4
    have c_4 : ¬ 0 = 0 := n_ne c_4
    omega
  · skip
    rw [← nI_0] at c_4
    have c_4 : 0 = 0 := n_eq c_4 (by omega) (by omega)
    refine lv_iconst (v := (-1)) hx hb dM_fault_7 (by decide) ?_
    exact ro_iret hQ hx hb hr hlocks dM_fault_8 rfl

abbrev rm_k_target : Room := { frames := 3, cells := 0, slots := 0, locals := 74 }
set_option maxRecDepth 100000 in
set_option maxHeartbeats 4000000 in
theorem k_target (l : Launch) (D : va_G) (cI cJ cZ : ClassId) (o : Nat) (mo : Nat) (n : Nat) (aP : Nat) (aH : Nat) (aT : Nat) (aB : Nat) (aZ : Nat) (aS : Nat) (aa : Nat) (ab : Nat) (ac : Nat) (aR : Nat) (α : Nat → Nat) (β : Nat → Nat) (v : Nat) (k : Nat) (hα8 : by8 α) (hβ8 : by8 β) (hv : v < 4294967296) (hk : k < 4) : rw_C l yM_target wM_target rm_k_target D vwCl (gT cI cJ cZ) [.ref o, .long (lN v), .int (nI k)] [(o, .inr (3, [.int (nI mo), .int (nI n), .ref aP, .ref aH, .ref aT, .ref aB, .ref aZ, .ref aS, .ref aa, .ref ab, .ref ac, .ref aR])), (aa, .inl (cI, 40, .inl (nF α))), (ab, .inl (cI, 40, .inl (nF β)))] (fun v9 w9 => (∃ a9 : Nat → Nat, by8 a9 ∧ v9 = some (.long (if r_fault v α β = 0 ∨ r_fault v α β = nI 4 then lN (r_lo (r_open v a9) (0 + 8 * (3 - k)) 8 0) else 0))) ∧ ∃ a9 b9 : Nat → Nat, by8 a9 ∧ by8 b9 ∧ w9 = [(o, .inr (3, [.int (nI mo), .int (nI n), .ref aP, .ref aH, .ref aT, .ref aB, .ref aZ, .ref aS, .ref aa, .ref ab, .ref ac, .ref aR])), (aa, .inl (cI, 40, .inl (nF a9))), (ab, .inl (cI, 40, .inl (nF b9)))]) 0 0 := by
  refine rw_of (cc := cM_target) (maxL := 5) (ret := some .long) (by decide) rfl (Nat.le_of_ble_eq_true rfl) ?_
  intro p e s m args below meth c Q A ls hx hb hr hml hown hts hlocks hin hK hP hD hA hl hQ
  have hS : va_S A s.heap s.heap [] := va_S.rf
  have hl : lv_has ls 5 [(0, .ref o), (1, .long (lN v)), (3, .int (nI k))] := hl
  have hown : s.vm.findClass RM = some m.cls := hown
  obtain ⟨H, hHe⟩ : ∃ H : Heap, H = s.heap := ⟨_, rfl⟩
  rw [← hHe] at hP
  have hS : va_S A s.heap H [] := by rw [hHe]; exact va_S.rf
  suffices h9 : W p l e rm_k_target s m args below meth c H [] 0 0 Q (F0 m 0 ls []) by rw [hHe] at h9; exact h9
  clear hHe
  refine lv_aload_n hx hb dM_target_0 rfl (lv_at hl 0 rfl) ?_
  refine lv_lload_n hx hb dM_target_1 rfl (lv_at hl 1 rfl) ?_
  refine rw_k (wc := [(o, .inr (3, [.int (nI mo), .int (nI n), .ref aP, .ref aH, .ref aT, .ref aB, .ref aZ, .ref aS, .ref aa, .ref ab, .ref ac, .ref aR])), (aa, .inl (cI, 40, .inl (nF α))), (ab, .inl (cI, 40, .inl (nF β)))]) (wr := []) (va_runV (As := [.long (lN v)]) (rest := []) ⟨hx, hb, hml, hown, hts⟩ (k_fault l D cI cJ cZ o mo n aP aH aT aB aZ aS aa ab ac aR α β v hα8 hβ8 hv H.size) (cwV 1 hts gM_target_M_fault_90 rfl rfl rfl (by decide +kernel) ⟨Nat.le_of_ble_eq_true rfl, Nat.le_of_ble_eq_true rfl⟩) (rw_preV (hP.sub [0, 1, 2] rfl) hK (hD.sub [0, 1, 2] (by decide) rfl) (va_recv hK hP (ci := 3) (q0 := 0) rfl rfl)) rfl rfl hl.1 rfl (lv_room (Nat.le_of_ble_eq_true rfl)) dM_target_2 ⟨Nat.le_of_ble_eq_true rfl, Nat.le_of_ble_eq_true rfl⟩) hP hD hS hA [0, 1, 2] [] rfl rfl (by decide) (by decide) (fun v9 w9 H locs hp9 hP hD hS => ?_)
  obtain ⟨rfl, α_2, β_2, hα_2, hβ_2, rfl⟩ := hp9
  have hP : va_P D vwCl [(o, .inr (3, [.int (nI mo), .int (nI n), .ref aP, .ref aH, .ref aT, .ref aB, .ref aZ, .ref aS, .ref aa, .ref ab, .ref ac, .ref aR])), (aa, .inl (cI, 40, .inl (nF α_2))), (ab, .inl (cI, 40, .inl (nF β_2)))] H := hP
  have hD : va_D A [(o, .inr (3, [.int (nI mo), .int (nI n), .ref aP, .ref aH, .ref aT, .ref aB, .ref aZ, .ref aS, .ref aa, .ref ab, .ref ac, .ref aR])), (aa, .inl (cI, 40, .inl (nF α_2))), (ab, .inl (cI, 40, .inl (nF β_2)))] := hD
  refine W.eq (g2 := F0 m 5 ls [.int (r_fault v α β)]) rfl ?_
  refine lv_istore (lv' := [(4, .int (r_fault v α β)), (0, .ref o), (1, .long (lN v)), (3, .int (nI k))]) hx hb dM_target_5 hl (by decide) rfl (fun ls hl => ?_)
  refine lv_iload hx hb dM_target_7 (lv_at hl 0 rfl) ?_
  refine lv_if_eq (tgt := 18) hx hb dM_target_9 (by decide) (fun c_9 => ?_) (fun c_9 => ?_)
  · skip
    refine lv_iload_n hx hb dM_target_18 rfl (lv_at hl 3 rfl) ?_
    refine lv_if_lt (tgt := 27) hx hb dM_target_19 (by decide) (fun c_19 => ?_) (fun c_19 => ?_)
    · skip
      rw [← nI_0] at c_19
      have c_19 : k < 0 := n_lt c_19 (by omega) (by omega)
      omega
    · skip
      rw [← nI_0] at c_19
      have c_19 : 0 ≤ k := n_nlt c_19 (by omega) (by omega)
      refine lv_iload_n hx hb dM_target_22 rfl (lv_at hl 3 rfl) ?_
      refine lv_iconst (v := nI 3) hx hb dM_target_23 (by decide) ?_
      refine lv_icmp_le (tgt := 29) hx hb dM_target_24 (by decide) (fun c_24 => ?_) (fun c_24 => ?_)
      · skip
        have c_24 : k ≤ 3 := n_le c_24 (by omega) (by omega)
        refine lv_lload_n hx hb dM_target_29 rfl (lv_at hl 2 rfl) ?_
        refine lv_aload_n hx hb dM_target_30 rfl (lv_at hl 1 rfl) ?_
        refine va_get (D := D) (ci := 3) (v := .ref aa) (C := RM) (T := TM) (N := 12) hx hb hts iM_target_M hown hK hP 0 rfl rfl 8 (by decide) (hts (.fieldLink RM 30 "TreeDeskModel" "a" "[I") (by decide +kernel)) (fun _ h9 => h9) rfl dM_target_31 ?_
        refine rw_k (wc := [(aa, .inl (cI, 40, .inl (nF α_2)))]) (wr := [(o, .inr (3, [.int (nI mo), .int (nI n), .ref aP, .ref aH, .ref aT, .ref aB, .ref aZ, .ref aS, .ref aa, .ref ab, .ref ac, .ref aR])), (ab, .inl (cI, 40, .inl (nF β_2)))]) (va_runS (As := [.long (lN v), .ref aa]) (rest := []) ⟨hx, hb, hml, hown, hts⟩ (k_open l D cI cJ cZ aa α_2 v hv H.size) (va_cwS 2 hts gM_target_M_open_57 rfl rfl rfl (by decide +kernel) ⟨Nat.le_of_ble_eq_true rfl, Nat.le_of_ble_eq_true rfl⟩) (rw_preS (hP.sub [1] rfl) hK (hD.sub [1] (by decide) rfl)) rfl rfl hl.1 rfl (lv_room (Nat.le_of_ble_eq_true rfl)) dM_target_34 ⟨Nat.le_of_ble_eq_true rfl, Nat.le_of_ble_eq_true rfl⟩) hP hD hS hA [1] [0, 2] rfl rfl (by decide) (by decide) (fun v9 w9 H locs hp9 hP hD hS => ?_)
        obtain ⟨rfl, rfl⟩ := hp9
        have hP : va_P D vwCl [(o, .inr (3, [.int (nI mo), .int (nI n), .ref aP, .ref aH, .ref aT, .ref aB, .ref aZ, .ref aS, .ref aa, .ref ab, .ref ac, .ref aR])), (ab, .inl (cI, 40, .inl (nF β_2))), (aa, .inl (cI, 40, .inl (nF (r_open v α_2))))] H := hP
        have hD : va_D A [(o, .inr (3, [.int (nI mo), .int (nI n), .ref aP, .ref aH, .ref aT, .ref aB, .ref aZ, .ref aS, .ref aa, .ref ab, .ref ac, .ref aR])), (ab, .inl (cI, 40, .inl (nF β_2))), (aa, .inl (cI, 40, .inl (nF (r_open v α_2))))] := hD
        refine W.eq (g2 := F0 m 37 ls []) rfl ?_
        refine lv_aload_n hx hb dM_target_37 rfl (lv_at hl 1 rfl) ?_
        refine va_get (D := D) (ci := 3) (v := .ref aa) (C := RM) (T := TM) (N := 12) hx hb hts iM_target_M hown hK hP 0 rfl rfl 8 (by decide) (hts (.fieldLink RM 30 "TreeDeskModel" "a" "[I") (by decide +kernel)) (fun _ h9 => h9) rfl dM_target_38 ?_
        refine lv_iconst (v := nI 0) hx hb dM_target_41 (by decide) ?_
        refine lv_iload_n hx hb dM_target_42 rfl (lv_at hl 3 rfl) ?_
        refine ro_kl (va_runS (As := [.ref aa, .int (nI 0), .int (nI k)]) (rest := []) ⟨hx, hb, hml, hown, hts⟩ (k_longOf l D cI cJ cZ aa 40 (r_open v α_2) 0 k (r_open_by hα_2) (by omega) (by omega) (by omega)) (va_cwS 3 hts gM_target_M_longOf_94 rfl rfl rfl (by decide +kernel) ⟨Nat.le_of_ble_eq_true rfl, Nat.le_of_ble_eq_true rfl⟩) (ro_preS (hP.sub [2] rfl) hK) rfl rfl hl.1 rfl (lv_room (Nat.le_of_ble_eq_true rfl)) dM_target_43 ⟨Nat.le_of_ble_eq_true rfl, Nat.le_of_ble_eq_true rfl⟩) ?_
        exact rw_lret (w := [(o, .inr (3, [.int (nI mo), .int (nI n), .ref aP, .ref aH, .ref aT, .ref aB, .ref aZ, .ref aS, .ref aa, .ref ab, .ref ac, .ref aR])), (aa, .inl (cI, 40, .inl (nF (r_open v α_2)))), (ab, .inl (cI, 40, .inl (nF β_2)))]) hQ hx hb hr hlocks dM_target_46 (hP.sub [0, 2, 1] rfl) (hD.sub [0, 2, 1] (by decide) rfl) hS ⟨⟨α_2, hα_2, congrArg (fun z => some (Value.long z)) (by rw [if_pos (Or.inl c_9)])⟩, r_open v α_2, β_2, r_open_by hα_2, hβ_2, rfl⟩
      · skip
        have c_24 : 3 < k := n_nle c_24 (by omega) (by omega)
        omega
  · skip
    refine lv_iload hx hb dM_target_12 (lv_at hl 0 rfl) ?_
    refine lv_iconst (v := nI 4) hx hb dM_target_14 (by decide) ?_
    refine lv_icmp_ne (tgt := 27) hx hb dM_target_15 (by decide) (fun c_15 => ?_) (fun c_15 => ?_)
    · skip
      refine lv_lconst (v := lN 0) hx hb dM_target_27 (by decide) ?_
      exact rw_lret (w := [(o, .inr (3, [.int (nI mo), .int (nI n), .ref aP, .ref aH, .ref aT, .ref aB, .ref aZ, .ref aS, .ref aa, .ref ab, .ref ac, .ref aR])), (aa, .inl (cI, 40, .inl (nF α_2))), (ab, .inl (cI, 40, .inl (nF β_2)))]) hQ hx hb hr hlocks dM_target_28 (hP.sub [0, 1, 2] rfl) (hD.sub [0, 1, 2] (by decide) rfl) hS ⟨⟨α_2, hα_2, congrArg (fun z => some (Value.long z)) (by rw [if_neg (fun h => h.elim c_9 c_15)]; rfl)⟩, α_2, β_2, hα_2, hβ_2, rfl⟩
    · skip
      refine lv_iload_n hx hb dM_target_18 rfl (lv_at hl 3 rfl) ?_
      refine lv_if_lt (tgt := 27) hx hb dM_target_19 (by decide) (fun c_19 => ?_) (fun c_19 => ?_)
      · skip
        rw [← nI_0] at c_19
        have c_19 : k < 0 := n_lt c_19 (by omega) (by omega)
        omega
      · skip
        rw [← nI_0] at c_19
        have c_19 : 0 ≤ k := n_nlt c_19 (by omega) (by omega)
        refine lv_iload_n hx hb dM_target_22 rfl (lv_at hl 3 rfl) ?_
        refine lv_iconst (v := nI 3) hx hb dM_target_23 (by decide) ?_
        refine lv_icmp_le (tgt := 29) hx hb dM_target_24 (by decide) (fun c_24 => ?_) (fun c_24 => ?_)
        · skip
          have c_24 : k ≤ 3 := n_le c_24 (by omega) (by omega)
          refine lv_lload_n hx hb dM_target_29 rfl (lv_at hl 2 rfl) ?_
          refine lv_aload_n hx hb dM_target_30 rfl (lv_at hl 1 rfl) ?_
          refine va_get (D := D) (ci := 3) (v := .ref aa) (C := RM) (T := TM) (N := 12) hx hb hts iM_target_M hown hK hP 0 rfl rfl 8 (by decide) (hts (.fieldLink RM 30 "TreeDeskModel" "a" "[I") (by decide +kernel)) (fun _ h9 => h9) rfl dM_target_31 ?_
          refine rw_k (wc := [(aa, .inl (cI, 40, .inl (nF α_2)))]) (wr := [(o, .inr (3, [.int (nI mo), .int (nI n), .ref aP, .ref aH, .ref aT, .ref aB, .ref aZ, .ref aS, .ref aa, .ref ab, .ref ac, .ref aR])), (ab, .inl (cI, 40, .inl (nF β_2)))]) (va_runS (As := [.long (lN v), .ref aa]) (rest := []) ⟨hx, hb, hml, hown, hts⟩ (k_open l D cI cJ cZ aa α_2 v hv H.size) (va_cwS 2 hts gM_target_M_open_57 rfl rfl rfl (by decide +kernel) ⟨Nat.le_of_ble_eq_true rfl, Nat.le_of_ble_eq_true rfl⟩) (rw_preS (hP.sub [1] rfl) hK (hD.sub [1] (by decide) rfl)) rfl rfl hl.1 rfl (lv_room (Nat.le_of_ble_eq_true rfl)) dM_target_34 ⟨Nat.le_of_ble_eq_true rfl, Nat.le_of_ble_eq_true rfl⟩) hP hD hS hA [1] [0, 2] rfl rfl (by decide) (by decide) (fun v9 w9 H locs hp9 hP hD hS => ?_)
          obtain ⟨rfl, rfl⟩ := hp9
          have hP : va_P D vwCl [(o, .inr (3, [.int (nI mo), .int (nI n), .ref aP, .ref aH, .ref aT, .ref aB, .ref aZ, .ref aS, .ref aa, .ref ab, .ref ac, .ref aR])), (ab, .inl (cI, 40, .inl (nF β_2))), (aa, .inl (cI, 40, .inl (nF (r_open v α_2))))] H := hP
          have hD : va_D A [(o, .inr (3, [.int (nI mo), .int (nI n), .ref aP, .ref aH, .ref aT, .ref aB, .ref aZ, .ref aS, .ref aa, .ref ab, .ref ac, .ref aR])), (ab, .inl (cI, 40, .inl (nF β_2))), (aa, .inl (cI, 40, .inl (nF (r_open v α_2))))] := hD
          refine W.eq (g2 := F0 m 37 ls []) rfl ?_
          refine lv_aload_n hx hb dM_target_37 rfl (lv_at hl 1 rfl) ?_
          refine va_get (D := D) (ci := 3) (v := .ref aa) (C := RM) (T := TM) (N := 12) hx hb hts iM_target_M hown hK hP 0 rfl rfl 8 (by decide) (hts (.fieldLink RM 30 "TreeDeskModel" "a" "[I") (by decide +kernel)) (fun _ h9 => h9) rfl dM_target_38 ?_
          refine lv_iconst (v := nI 0) hx hb dM_target_41 (by decide) ?_
          refine lv_iload_n hx hb dM_target_42 rfl (lv_at hl 3 rfl) ?_
          refine ro_kl (va_runS (As := [.ref aa, .int (nI 0), .int (nI k)]) (rest := []) ⟨hx, hb, hml, hown, hts⟩ (k_longOf l D cI cJ cZ aa 40 (r_open v α_2) 0 k (r_open_by hα_2) (by omega) (by omega) (by omega)) (va_cwS 3 hts gM_target_M_longOf_94 rfl rfl rfl (by decide +kernel) ⟨Nat.le_of_ble_eq_true rfl, Nat.le_of_ble_eq_true rfl⟩) (ro_preS (hP.sub [2] rfl) hK) rfl rfl hl.1 rfl (lv_room (Nat.le_of_ble_eq_true rfl)) dM_target_43 ⟨Nat.le_of_ble_eq_true rfl, Nat.le_of_ble_eq_true rfl⟩) ?_
          exact rw_lret (w := [(o, .inr (3, [.int (nI mo), .int (nI n), .ref aP, .ref aH, .ref aT, .ref aB, .ref aZ, .ref aS, .ref aa, .ref ab, .ref ac, .ref aR])), (aa, .inl (cI, 40, .inl (nF (r_open v α_2)))), (ab, .inl (cI, 40, .inl (nF β_2)))]) hQ hx hb hr hlocks dM_target_46 (hP.sub [0, 2, 1] rfl) (hD.sub [0, 2, 1] (by decide) rfl) hS ⟨⟨α_2, hα_2, congrArg (fun z => some (Value.long z)) (by rw [if_pos (Or.inr c_15)])⟩, r_open v α_2, β_2, r_open_by hα_2, hβ_2, rfl⟩
        · skip
          have c_24 : 3 < k := n_nle c_24 (by omega) (by omega)
          omega

abbrev rm_k_target_kno : Room := { frames := 3, cells := 0, slots := 0, locals := 74 }
set_option maxRecDepth 100000 in
set_option maxHeartbeats 4000000 in
theorem k_target_kno (l : Launch) (D : va_G) (cI cJ cZ : ClassId) (o : Nat) (mo : Nat) (n : Nat) (aP : Nat) (aH : Nat) (aT : Nat) (aB : Nat) (aZ : Nat) (aS : Nat) (aa : Nat) (ab : Nat) (ac : Nat) (aR : Nat) (α : Nat → Nat) (β : Nat → Nat) (v : Nat) (k : Int32) (hα8 : by8 α) (hβ8 : by8 β) (hv : v < 4294967296) (hk9 : ¬ (0 ≤ k ∧ k ≤ nI 3)) : rw_C l yM_target wM_target rm_k_target_kno D vwCl (gT cI cJ cZ) [.ref o, .long (lN v), .int k] [(o, .inr (3, [.int (nI mo), .int (nI n), .ref aP, .ref aH, .ref aT, .ref aB, .ref aZ, .ref aS, .ref aa, .ref ab, .ref ac, .ref aR])), (aa, .inl (cI, 40, .inl (nF α))), (ab, .inl (cI, 40, .inl (nF β)))] (fun v9 w9 => v9 = some (.long 0) ∧ ∃ a9 b9 : Nat → Nat, by8 a9 ∧ by8 b9 ∧ w9 = [(o, .inr (3, [.int (nI mo), .int (nI n), .ref aP, .ref aH, .ref aT, .ref aB, .ref aZ, .ref aS, .ref aa, .ref ab, .ref ac, .ref aR])), (aa, .inl (cI, 40, .inl (nF a9))), (ab, .inl (cI, 40, .inl (nF b9)))]) 0 0 := by
  refine rw_of (cc := cM_target) (maxL := 5) (ret := some .long) (by decide) rfl (Nat.le_of_ble_eq_true rfl) ?_
  intro p e s m args below meth c Q A ls hx hb hr hml hown hts hlocks hin hK hP hD hA hl hQ
  have hS : va_S A s.heap s.heap [] := va_S.rf
  have hl : lv_has ls 5 [(0, .ref o), (1, .long (lN v)), (3, .int k)] := hl
  have hown : s.vm.findClass RM = some m.cls := hown
  obtain ⟨H, hHe⟩ : ∃ H : Heap, H = s.heap := ⟨_, rfl⟩
  rw [← hHe] at hP
  have hS : va_S A s.heap H [] := by rw [hHe]; exact va_S.rf
  suffices h9 : W p l e rm_k_target_kno s m args below meth c H [] 0 0 Q (F0 m 0 ls []) by rw [hHe] at h9; exact h9
  clear hHe
  refine lv_aload_n hx hb dM_target_0 rfl (lv_at hl 0 rfl) ?_
  refine lv_lload_n hx hb dM_target_1 rfl (lv_at hl 1 rfl) ?_
  refine rw_k (wc := [(o, .inr (3, [.int (nI mo), .int (nI n), .ref aP, .ref aH, .ref aT, .ref aB, .ref aZ, .ref aS, .ref aa, .ref ab, .ref ac, .ref aR])), (aa, .inl (cI, 40, .inl (nF α))), (ab, .inl (cI, 40, .inl (nF β)))]) (wr := []) (va_runV (As := [.long (lN v)]) (rest := []) ⟨hx, hb, hml, hown, hts⟩ (k_fault l D cI cJ cZ o mo n aP aH aT aB aZ aS aa ab ac aR α β v hα8 hβ8 hv H.size) (cwV 1 hts gM_target_M_fault_90 rfl rfl rfl (by decide +kernel) ⟨Nat.le_of_ble_eq_true rfl, Nat.le_of_ble_eq_true rfl⟩) (rw_preV (hP.sub [0, 1, 2] rfl) hK (hD.sub [0, 1, 2] (by decide) rfl) (va_recv hK hP (ci := 3) (q0 := 0) rfl rfl)) rfl rfl hl.1 rfl (lv_room (Nat.le_of_ble_eq_true rfl)) dM_target_2 ⟨Nat.le_of_ble_eq_true rfl, Nat.le_of_ble_eq_true rfl⟩) hP hD hS hA [0, 1, 2] [] rfl rfl (by decide) (by decide) (fun v9 w9 H locs hp9 hP hD hS => ?_)
  obtain ⟨rfl, α_2, β_2, hα_2, hβ_2, rfl⟩ := hp9
  have hP : va_P D vwCl [(o, .inr (3, [.int (nI mo), .int (nI n), .ref aP, .ref aH, .ref aT, .ref aB, .ref aZ, .ref aS, .ref aa, .ref ab, .ref ac, .ref aR])), (aa, .inl (cI, 40, .inl (nF α_2))), (ab, .inl (cI, 40, .inl (nF β_2)))] H := hP
  have hD : va_D A [(o, .inr (3, [.int (nI mo), .int (nI n), .ref aP, .ref aH, .ref aT, .ref aB, .ref aZ, .ref aS, .ref aa, .ref ab, .ref ac, .ref aR])), (aa, .inl (cI, 40, .inl (nF α_2))), (ab, .inl (cI, 40, .inl (nF β_2)))] := hD
  refine W.eq (g2 := F0 m 5 ls [.int (r_fault v α β)]) rfl ?_
  refine lv_istore (lv' := [(4, .int (r_fault v α β)), (0, .ref o), (1, .long (lN v)), (3, .int k)]) hx hb dM_target_5 hl (by decide) rfl (fun ls hl => ?_)
  refine lv_iload hx hb dM_target_7 (lv_at hl 0 rfl) ?_
  refine lv_if_eq (tgt := 18) hx hb dM_target_9 (by decide) (fun c_9 => ?_) (fun c_9 => ?_)
  · skip
    refine lv_iload_n hx hb dM_target_18 rfl (lv_at hl 3 rfl) ?_
    refine lv_if_lt (tgt := 27) hx hb dM_target_19 (by decide) (fun c_19 => ?_) (fun c_19 => ?_)
    · skip
      refine lv_lconst (v := lN 0) hx hb dM_target_27 (by decide) ?_
      exact rw_lret (w := [(o, .inr (3, [.int (nI mo), .int (nI n), .ref aP, .ref aH, .ref aT, .ref aB, .ref aZ, .ref aS, .ref aa, .ref ab, .ref ac, .ref aR])), (aa, .inl (cI, 40, .inl (nF α_2))), (ab, .inl (cI, 40, .inl (nF β_2)))]) hQ hx hb hr hlocks dM_target_28 (hP.sub [0, 1, 2] rfl) (hD.sub [0, 1, 2] (by decide) rfl) hS ⟨rfl, α_2, β_2, hα_2, hβ_2, rfl⟩
    · skip
      refine lv_iload_n hx hb dM_target_22 rfl (lv_at hl 3 rfl) ?_
      refine lv_iconst (v := nI 3) hx hb dM_target_23 (by decide) ?_
      refine lv_icmp_le (tgt := 29) hx hb dM_target_24 (by decide) (fun c_24 => ?_) (fun c_24 => ?_)
      · skip
        exact absurd ⟨Int32.not_lt.mp c_19, c_24⟩ hk9
      · skip
        refine lv_lconst (v := lN 0) hx hb dM_target_27 (by decide) ?_
        exact rw_lret (w := [(o, .inr (3, [.int (nI mo), .int (nI n), .ref aP, .ref aH, .ref aT, .ref aB, .ref aZ, .ref aS, .ref aa, .ref ab, .ref ac, .ref aR])), (aa, .inl (cI, 40, .inl (nF α_2))), (ab, .inl (cI, 40, .inl (nF β_2)))]) hQ hx hb hr hlocks dM_target_28 (hP.sub [0, 1, 2] rfl) (hD.sub [0, 1, 2] (by decide) rfl) hS ⟨rfl, α_2, β_2, hα_2, hβ_2, rfl⟩
  · skip
    refine lv_iload hx hb dM_target_12 (lv_at hl 0 rfl) ?_
    refine lv_iconst (v := nI 4) hx hb dM_target_14 (by decide) ?_
    refine lv_icmp_ne (tgt := 27) hx hb dM_target_15 (by decide) (fun c_15 => ?_) (fun c_15 => ?_)
    · skip
      refine lv_lconst (v := lN 0) hx hb dM_target_27 (by decide) ?_
      exact rw_lret (w := [(o, .inr (3, [.int (nI mo), .int (nI n), .ref aP, .ref aH, .ref aT, .ref aB, .ref aZ, .ref aS, .ref aa, .ref ab, .ref ac, .ref aR])), (aa, .inl (cI, 40, .inl (nF α_2))), (ab, .inl (cI, 40, .inl (nF β_2)))]) hQ hx hb hr hlocks dM_target_28 (hP.sub [0, 1, 2] rfl) (hD.sub [0, 1, 2] (by decide) rfl) hS ⟨rfl, α_2, β_2, hα_2, hβ_2, rfl⟩
    · skip
      refine lv_iload_n hx hb dM_target_18 rfl (lv_at hl 3 rfl) ?_
      refine lv_if_lt (tgt := 27) hx hb dM_target_19 (by decide) (fun c_19 => ?_) (fun c_19 => ?_)
      · skip
        refine lv_lconst (v := lN 0) hx hb dM_target_27 (by decide) ?_
        exact rw_lret (w := [(o, .inr (3, [.int (nI mo), .int (nI n), .ref aP, .ref aH, .ref aT, .ref aB, .ref aZ, .ref aS, .ref aa, .ref ab, .ref ac, .ref aR])), (aa, .inl (cI, 40, .inl (nF α_2))), (ab, .inl (cI, 40, .inl (nF β_2)))]) hQ hx hb hr hlocks dM_target_28 (hP.sub [0, 1, 2] rfl) (hD.sub [0, 1, 2] (by decide) rfl) hS ⟨rfl, α_2, β_2, hα_2, hβ_2, rfl⟩
      · skip
        refine lv_iload_n hx hb dM_target_22 rfl (lv_at hl 3 rfl) ?_
        refine lv_iconst (v := nI 3) hx hb dM_target_23 (by decide) ?_
        refine lv_icmp_le (tgt := 29) hx hb dM_target_24 (by decide) (fun c_24 => ?_) (fun c_24 => ?_)
        · skip
          exact absurd ⟨Int32.not_lt.mp c_19, c_24⟩ hk9
        · skip
          refine lv_lconst (v := lN 0) hx hb dM_target_27 (by decide) ?_
          exact rw_lret (w := [(o, .inr (3, [.int (nI mo), .int (nI n), .ref aP, .ref aH, .ref aT, .ref aB, .ref aZ, .ref aS, .ref aa, .ref ab, .ref ac, .ref aR])), (aa, .inl (cI, 40, .inl (nF α_2))), (ab, .inl (cI, 40, .inl (nF β_2)))]) hQ hx hb hr hlocks dM_target_28 (hP.sub [0, 1, 2] rfl) (hD.sub [0, 1, 2] (by decide) rfl) hS ⟨rfl, α_2, β_2, hα_2, hβ_2, rfl⟩

abbrev rm_k_target_no : Room := { frames := 3, cells := 0, slots := 0, locals := 74 }
set_option maxRecDepth 100000 in
set_option maxHeartbeats 4000000 in
theorem k_target_no (l : Launch) (D : va_G) (cI cJ cZ : ClassId) (o : Nat) (mo : Nat) (n : Nat) (aP : Nat) (aH : Nat) (aT : Nat) (aB : Nat) (aZ : Nat) (aS : Nat) (aa : Nat) (ab : Nat) (ac : Nat) (aR : Nat) (b : Int64) (k : Int32) (hb9 : ¬ (0 ≤ b ∧ b ≤ 4294967295)) : ro_C l yM_target wM_target rm_k_target_no D vwCl (gT cI cJ cZ) [.ref o, .long b, .int k] [(o, .inr (3, [.int (nI mo), .int (nI n), .ref aP, .ref aH, .ref aT, .ref aB, .ref aZ, .ref aS, .ref aa, .ref ab, .ref ac, .ref aR]))] (some (.long 0)) := by
  refine ro_of (cc := cM_target) (maxL := 5) (ret := some .long) (by decide) rfl (Nat.le_of_ble_eq_true rfl) ?_
  intro p e s m args below meth c Q ls hx hb hr hml hown hts hlocks hK hP hl hQ
  have hl : lv_has ls 5 [(0, .ref o), (1, .long b), (3, .int k)] := hl
  have hown : s.vm.findClass RM = some m.cls := hown
  refine lv_aload_n hx hb dM_target_0 rfl (lv_at hl 0 rfl) ?_
  refine lv_lload_n hx hb dM_target_1 rfl (lv_at hl 1 rfl) ?_
  refine ro_ki (va_runV (As := [.long b]) (rest := []) ⟨hx, hb, hml, hown, hts⟩ (k_fault_no l D cI cJ cZ o mo n aP aH aT aB aZ aS aa ab ac aR b hb9) (cwV 1 hts gM_target_M_fault_90 rfl rfl rfl (by decide +kernel) ⟨Nat.le_of_ble_eq_true rfl, Nat.le_of_ble_eq_true rfl⟩) (ro_preV (hP.sub [0] rfl) hK (va_recv hK hP (ci := 3) (q0 := 0) rfl rfl)) rfl rfl hl.1 rfl (lv_room (Nat.le_of_ble_eq_true rfl)) dM_target_2 ⟨Nat.le_of_ble_eq_true rfl, Nat.le_of_ble_eq_true rfl⟩) ?_
  refine lv_istore (lv' := [(4, .int (-1)), (0, .ref o), (1, .long b), (3, .int k)]) hx hb dM_target_5 hl (by decide) rfl (fun ls hl => ?_)
  refine lv_iload hx hb dM_target_7 (lv_at hl 0 rfl) ?_
  refine lv_if_eq (tgt := 18) hx hb dM_target_9 (by decide) (fun c_9 => ?_) (fun c_9 => ?_)
  · skip
    exact absurd c_9 (by decide)
  · skip
    refine lv_iload hx hb dM_target_12 (lv_at hl 0 rfl) ?_
    refine lv_iconst (v := nI 4) hx hb dM_target_14 (by decide) ?_
    refine lv_icmp_ne (tgt := 27) hx hb dM_target_15 (by decide) (fun c_15 => ?_) (fun c_15 => ?_)
    · skip
      refine lv_lconst (v := 0) hx hb dM_target_27 (by decide) ?_
      exact ro_lret hQ hx hb hr hlocks dM_target_28 rfl
    · skip
      exact absurd c_15 (by decide)

abbrev rm_k_compact : Room := { frames := 2, cells := 0, slots := 0, locals := 46 }
set_option maxRecDepth 100000 in
set_option maxHeartbeats 4000000 in
theorem k_compact (l : Launch) (D : va_G) (cI cJ cZ : ClassId) (o : Nat) (mo : Nat) (n : Nat) (aP : Nat) (aH : Nat) (aT : Nat) (aB : Nat) (aZ : Nat) (aS : Nat) (aa : Nat) (ab : Nat) (ac : Nat) (aR : Nat) (α : Nat → Nat) (w : Int64) (x : Int64) (y : Int64) (z : Int64) (hα8 : by8 α) : rw_C l yM_compact wM_compact rm_k_compact D vwCl (gT cI cJ cZ) [.ref o, .long w, .long x, .long y, .long z] [(o, .inr (3, [.int (nI mo), .int (nI n), .ref aP, .ref aH, .ref aT, .ref aB, .ref aZ, .ref aS, .ref aa, .ref ab, .ref ac, .ref aR])), (aa, .inl (cI, 40, .inl (nF α)))] (fun v9 w9 => v9 = some (.long (lN (r_compact (r_cpL w x y z 32 0 (zN α 40))))) ∧ w9 = [(o, .inr (3, [.int (nI mo), .int (nI n), .ref aP, .ref aH, .ref aT, .ref aB, .ref aZ, .ref aS, .ref aa, .ref ab, .ref ac, .ref aR])), (aa, .inl (cI, 40, .inl (nF (r_cpL w x y z 32 0 (zN α 40)))))]) 0 0 := by
  refine rw_of (cc := cM_compact) (maxL := 12) (ret := some .long) (by decide) rfl (Nat.le_of_ble_eq_true rfl) ?_
  intro p e s m args below meth c Q A ls hx hb hr hml hown hts hlocks hin hK hP hD hA hl hQ
  have hS : va_S A s.heap s.heap [] := va_S.rf
  have hl : lv_has ls 12 [(0, .ref o), (1, .long w), (3, .long x), (5, .long y), (7, .long z)] := hl
  have hown : s.vm.findClass RM = some m.cls := hown
  obtain ⟨H, hHe⟩ : ∃ H : Heap, H = s.heap := ⟨_, rfl⟩
  rw [← hHe] at hP
  have hS : va_S A s.heap H [] := by rw [hHe]; exact va_S.rf
  suffices h9 : W p l e rm_k_compact s m args below meth c H [] 0 0 Q (F0 m 0 ls []) by rw [hHe] at h9; exact h9
  clear hHe
  refine lv_aload_n hx hb dM_compact_0 rfl (lv_at hl 0 rfl) ?_
  refine va_get (D := D) (ci := 3) (v := .ref aa) (C := RM) (T := TM) (N := 12) hx hb hts iM_compact_M hown hK hP 0 rfl rfl 8 (by decide) (hts (.fieldLink RM 30 "TreeDeskModel" "a" "[I") (by decide +kernel)) (fun _ h9 => h9) rfl dM_compact_1 ?_
  refine rw_k (wc := [(aa, .inl (cI, 40, .inl (nF α)))]) (wr := [(o, .inr (3, [.int (nI mo), .int (nI n), .ref aP, .ref aH, .ref aT, .ref aB, .ref aZ, .ref aS, .ref aa, .ref ab, .ref ac, .ref aR]))]) (va_runS (As := [.ref aa]) (rest := []) ⟨hx, hb, hml, hown, hts⟩ (k_nothing l D cI cJ cZ aa α H.size) (va_cwS 1 hts gM_compact_M_nothing_64 rfl rfl rfl (by decide +kernel) ⟨Nat.le_of_ble_eq_true rfl, Nat.le_of_ble_eq_true rfl⟩) (rw_preS (hP.sub [1] rfl) hK (hD.sub [1] (by decide) rfl)) rfl rfl hl.1 rfl (lv_room (Nat.le_of_ble_eq_true rfl)) dM_compact_4 ⟨Nat.le_of_ble_eq_true rfl, Nat.le_of_ble_eq_true rfl⟩) hP hD hS hA [1] [0] rfl rfl (by decide) (by decide) (fun v9 w9 H locs hp9 hP hD hS => ?_)
  obtain ⟨rfl, rfl⟩ := hp9
  have hP : va_P D vwCl [(o, .inr (3, [.int (nI mo), .int (nI n), .ref aP, .ref aH, .ref aT, .ref aB, .ref aZ, .ref aS, .ref aa, .ref ab, .ref ac, .ref aR])), (aa, .inl (cI, 40, .inl (nF (zN α 40))))] H := hP
  have hD : va_D A [(o, .inr (3, [.int (nI mo), .int (nI n), .ref aP, .ref aH, .ref aT, .ref aB, .ref aZ, .ref aS, .ref aa, .ref ab, .ref ac, .ref aR])), (aa, .inl (cI, 40, .inl (nF (zN α 40))))] := hD
  refine W.eq (g2 := F0 m 7 ls []) rfl ?_
  refine lv_iconst (v := nI 0) hx hb dM_compact_7 (by decide) ?_
  refine lv_istore (lv' := [(9, .int (nI 0)), (0, .ref o), (1, .long w), (3, .long x), (5, .long y), (7, .long z)]) hx hb dM_compact_8 hl (by decide) rfl (fun ls hl => ?_)
  have lp_10 : ∀ (n_10 : Nat) (d i : Nat) (f : Nat → Nat), (d < n_10) → (i + d = 32) → (r_cpL w x y z d i f = r_cpL w x y z 32 0 (zN α 40)) → ∀ (H : Heap) (locs : List Loc), va_P D vwCl [(o, .inr (3, [.int (nI mo), .int (nI n), .ref aP, .ref aH, .ref aT, .ref aB, .ref aZ, .ref aS, .ref aa, .ref ab, .ref ac, .ref aR])), (aa, .inl (cI, 40, .inl (nF f)))] H → va_D A [(o, .inr (3, [.int (nI mo), .int (nI n), .ref aP, .ref aH, .ref aT, .ref aB, .ref aZ, .ref aS, .ref aa, .ref ab, .ref ac, .ref aR])), (aa, .inl (cI, 40, .inl (nF f)))] → va_S A s.heap H locs → ∀ (ls : Array Slot), lv_has ls 12 [(0, .ref o), (1, .long w), (3, .long x), (5, .long y), (7, .long z), (9, .int (nI i))] → W p l e rm_k_compact s m args below meth c H locs 0 0 Q (F0 m 10 ls []) := by
    intro n_10
    induction n_10 with
    | zero => intro d i f hn hd hg H locs hP hD hS ls hl; exact absurd hn (by omega)
    | succ n_10 ih_10 =>
      intro d i f hn hd hg H locs hP hD hS ls hl
      refine lv_iload hx hb dM_compact_10 (lv_at hl 5 rfl) ?_
      refine lv_bipush (v := nI 32) hx hb dM_compact_12 (by decide) ?_
      refine lv_icmp_ge (tgt := 84) hx hb dM_compact_14 (by decide) (fun c_14 => ?_) (fun c_14 => ?_)
      · skip
        have c_14 : 32 ≤ i := n_le c_14 (by omega) (by omega)
        have hd0 : d = 0 := by omega
        subst hd0
        have hff : f = r_cpL w x y z 32 0 (zN α 40) := hg
        subst hff
        refine lv_aload_n hx hb dM_compact_84 rfl (lv_at hl 0 rfl) ?_
        refine va_get (D := D) (ci := 3) (v := .ref aa) (C := RM) (T := TM) (N := 12) hx hb hts iM_compact_M hown hK hP 0 rfl rfl 8 (by decide) (hts (.fieldLink RM 30 "TreeDeskModel" "a" "[I") (by decide +kernel)) (fun _ h9 => h9) rfl dM_compact_85 ?_
        refine ro_kl (va_runS (As := [.ref aa]) (rest := []) ⟨hx, hb, hml, hown, hts⟩ (k_compactOf l D cI cJ cZ aa (r_cpL w x y z 32 0 (zN α 40)) (r_cpL_by (by8_z hα8))) (va_cwS 1 hts gM_compact_M_compactOf_98 rfl rfl rfl (by decide +kernel) ⟨Nat.le_of_ble_eq_true rfl, Nat.le_of_ble_eq_true rfl⟩) (ro_preS (hP.sub [1] rfl) hK) rfl rfl hl.1 rfl (lv_room (Nat.le_of_ble_eq_true rfl)) dM_compact_88 ⟨Nat.le_of_ble_eq_true rfl, Nat.le_of_ble_eq_true rfl⟩) ?_
        exact rw_lret (w := [(o, .inr (3, [.int (nI mo), .int (nI n), .ref aP, .ref aH, .ref aT, .ref aB, .ref aZ, .ref aS, .ref aa, .ref ab, .ref ac, .ref aR])), (aa, .inl (cI, 40, .inl (nF (r_cpL w x y z 32 0 (zN α 40)))))]) hQ hx hb hr hlocks dM_compact_91 (hP.sub [0, 1] rfl) (hD.sub [0, 1] (by decide) rfl) hS ⟨rfl, rfl⟩
      · skip
        have c_14 : i < 32 := n_nle c_14 (by omega) (by omega)
        obtain ⟨d, rfl⟩ : ∃ d' : Nat, d = d' + 1 := ⟨d - 1, by omega⟩
        refine lv_iload hx hb dM_compact_17 (lv_at hl 5 rfl) ?_
        refine lv_bipush (v := nI 8) hx hb dM_compact_19 (by decide) ?_
        refine lv_icmp_ge (tgt := 29) hx hb dM_compact_21 (by decide) (fun c_21 => ?_) (fun c_21 => ?_)
        · skip
          have c_21 : 8 ≤ i := n_le c_21 (by omega) (by omega)
          refine lv_iload hx hb dM_compact_29 (lv_at hl 5 rfl) ?_
          refine lv_bipush (v := nI 16) hx hb dM_compact_31 (by decide) ?_
          refine lv_icmp_ge (tgt := 41) hx hb dM_compact_33 (by decide) (fun c_33 => ?_) (fun c_33 => ?_)
          · skip
            have c_33 : 16 ≤ i := n_le c_33 (by omega) (by omega)
            refine lv_iload hx hb dM_compact_41 (lv_at hl 5 rfl) ?_
            refine lv_bipush (v := nI 24) hx hb dM_compact_43 (by decide) ?_
            refine lv_icmp_ge (tgt := 52) hx hb dM_compact_45 (by decide) (fun c_45 => ?_) (fun c_45 => ?_)
            · skip
              have c_45 : 24 ≤ i := n_le c_45 (by omega) (by omega)
              refine lv_lload_n hx hb dM_compact_52 rfl (lv_at hl 1 rfl) ?_
              refine tp_l (y := r_word w x y z i) (by unfold r_word; rw [if_neg (by omega), if_neg (by omega), if_neg (by omega)]) ?_
              refine lv_lstore (lv' := [(10, .long (r_word w x y z i)), (0, .ref o), (1, .long w), (3, .long x), (5, .long y), (7, .long z), (9, .int (nI i))]) hx hb dM_compact_53 hl (by decide) rfl (fun ls hl => ?_)
              refine lv_aload_n hx hb dM_compact_55 rfl (lv_at hl 1 rfl) ?_
              refine va_get (D := D) (ci := 3) (v := .ref aa) (C := RM) (T := TM) (N := 12) hx hb hts iM_compact_M hown hK hP 0 rfl rfl 8 (by decide) (hts (.fieldLink RM 30 "TreeDeskModel" "a" "[I") (by decide +kernel)) (fun _ h9 => h9) rfl dM_compact_56 ?_
              refine lv_iload hx hb dM_compact_59 (lv_at hl 6 rfl) ?_
              refine lv_lload hx hb dM_compact_61 (lv_at hl 0 rfl) ?_
              refine lv_bipush (v := nI 8) hx hb dM_compact_63 (by decide) ?_
              refine lv_iload hx hb dM_compact_65 (lv_at hl 6 rfl) ?_
              refine lv_bipush (v := nI 8) hx hb dM_compact_67 (by decide) ?_
              refine lv_irem hx hb dM_compact_69 (nI_ne0 (by omega) (by omega)) ?_
              refine tp_i (y := nI (i % 8)) (pk_rem (by omega) (by omega) (by omega)) ?_
              refine lv_imul hx hb dM_compact_70 ?_
              refine tp_i (y := nI (8 * (i % 8))) (pk_mul _ _) ?_
              refine lv_lshr (v := j_shr (r_word w x y z i) (nI (8 * (i % 8)))) hx hb dM_compact_71 rfl ?_
              refine lv_ldc2 (v := 255) hx hb hown (hts (.constantLong RM 70 255) (by decide +kernel)) dM_compact_72 ?_
              refine tp_l (y := lN 255) (by decide) ?_
              refine lv_land hx hb dM_compact_75 ?_
              refine lv_l2i (v := ((j_shr (r_word w x y z i) (nI (8 * (i % 8)))) &&& (lN 255)).toInt32) hx hb dM_compact_76 rfl ?_
              refine tp_i (y := nI (r_by (r_word w x y z i) i)) by_w ?_
              refine ar_ist (j := i) hx hb hK hP hD hS 1 0 rfl rfl dM_compact_77 (by omega) (by omega) (fun H locs hP hD hS => ?_)
              have hP : va_P D vwCl [(o, .inr (3, [.int (nI mo), .int (nI n), .ref aP, .ref aH, .ref aT, .ref aB, .ref aZ, .ref aS, .ref aa, .ref ab, .ref ac, .ref aR])), (aa, .inl (cI, 40, .inl (upd (nF f) i (nI (r_by (r_word w x y z i) i)))))] H := hP
              have hD : va_D A [(o, .inr (3, [.int (nI mo), .int (nI n), .ref aP, .ref aH, .ref aT, .ref aB, .ref aZ, .ref aS, .ref aa, .ref ab, .ref ac, .ref aR])), (aa, .inl (cI, 40, .inl (upd (nF f) i (nI (r_by (r_word w x y z i) i)))))] := hD
              have e_w77 : upd (nF f) i (nI (r_by (r_word w x y z i) i)) = nF (updN f i (r_by (r_word w x y z i) i)) := nF_u f i _
              rw [e_w77] at hP hD
              refine lv_iinc (v := nI (i + 1)) (lv' := [(9, .int (nI (i + 1))), (10, .long (r_word w x y z i)), (0, .ref o), (1, .long w), (3, .long x), (5, .long y), (7, .long z)]) hx hb dM_compact_78 hl (k := 6) rfl (nI_add _ 1) (by decide) rfl (fun ls hl => ?_)
              refine lv_goto (tgt := 10) hx hb dM_compact_81 (by decide) ?_
              exact ih_10 d (i + 1) (updN f i (r_by (r_word w x y z i) i)) (by omega) (by omega) hg _ _ (hP.sub [0, 1] rfl) (hD.sub [0, 1] (by decide) rfl) hS ls (lv_sub hl [2, 3, 4, 5, 6, 0] rfl)
            · skip
              have c_45 : i < 24 := n_nle c_45 (by omega) (by omega)
              refine lv_lload_n hx hb dM_compact_48 rfl (lv_at hl 2 rfl) ?_
              refine tp_l (y := r_word w x y z i) (by unfold r_word; rw [if_neg (by omega), if_neg (by omega), if_pos c_45]) ?_
              refine lv_goto (tgt := 53) hx hb dM_compact_49 (by decide) ?_
              refine lv_lstore (lv' := [(10, .long (r_word w x y z i)), (0, .ref o), (1, .long w), (3, .long x), (5, .long y), (7, .long z), (9, .int (nI i))]) hx hb dM_compact_53 hl (by decide) rfl (fun ls hl => ?_)
              refine lv_aload_n hx hb dM_compact_55 rfl (lv_at hl 1 rfl) ?_
              refine va_get (D := D) (ci := 3) (v := .ref aa) (C := RM) (T := TM) (N := 12) hx hb hts iM_compact_M hown hK hP 0 rfl rfl 8 (by decide) (hts (.fieldLink RM 30 "TreeDeskModel" "a" "[I") (by decide +kernel)) (fun _ h9 => h9) rfl dM_compact_56 ?_
              refine lv_iload hx hb dM_compact_59 (lv_at hl 6 rfl) ?_
              refine lv_lload hx hb dM_compact_61 (lv_at hl 0 rfl) ?_
              refine lv_bipush (v := nI 8) hx hb dM_compact_63 (by decide) ?_
              refine lv_iload hx hb dM_compact_65 (lv_at hl 6 rfl) ?_
              refine lv_bipush (v := nI 8) hx hb dM_compact_67 (by decide) ?_
              refine lv_irem hx hb dM_compact_69 (nI_ne0 (by omega) (by omega)) ?_
              refine tp_i (y := nI (i % 8)) (pk_rem (by omega) (by omega) (by omega)) ?_
              refine lv_imul hx hb dM_compact_70 ?_
              refine tp_i (y := nI (8 * (i % 8))) (pk_mul _ _) ?_
              refine lv_lshr (v := j_shr (r_word w x y z i) (nI (8 * (i % 8)))) hx hb dM_compact_71 rfl ?_
              refine lv_ldc2 (v := 255) hx hb hown (hts (.constantLong RM 70 255) (by decide +kernel)) dM_compact_72 ?_
              refine tp_l (y := lN 255) (by decide) ?_
              refine lv_land hx hb dM_compact_75 ?_
              refine lv_l2i (v := ((j_shr (r_word w x y z i) (nI (8 * (i % 8)))) &&& (lN 255)).toInt32) hx hb dM_compact_76 rfl ?_
              refine tp_i (y := nI (r_by (r_word w x y z i) i)) by_w ?_
              refine ar_ist (j := i) hx hb hK hP hD hS 1 0 rfl rfl dM_compact_77 (by omega) (by omega) (fun H locs hP hD hS => ?_)
              have hP : va_P D vwCl [(o, .inr (3, [.int (nI mo), .int (nI n), .ref aP, .ref aH, .ref aT, .ref aB, .ref aZ, .ref aS, .ref aa, .ref ab, .ref ac, .ref aR])), (aa, .inl (cI, 40, .inl (upd (nF f) i (nI (r_by (r_word w x y z i) i)))))] H := hP
              have hD : va_D A [(o, .inr (3, [.int (nI mo), .int (nI n), .ref aP, .ref aH, .ref aT, .ref aB, .ref aZ, .ref aS, .ref aa, .ref ab, .ref ac, .ref aR])), (aa, .inl (cI, 40, .inl (upd (nF f) i (nI (r_by (r_word w x y z i) i)))))] := hD
              have e_w77 : upd (nF f) i (nI (r_by (r_word w x y z i) i)) = nF (updN f i (r_by (r_word w x y z i) i)) := nF_u f i _
              rw [e_w77] at hP hD
              refine lv_iinc (v := nI (i + 1)) (lv' := [(9, .int (nI (i + 1))), (10, .long (r_word w x y z i)), (0, .ref o), (1, .long w), (3, .long x), (5, .long y), (7, .long z)]) hx hb dM_compact_78 hl (k := 6) rfl (nI_add _ 1) (by decide) rfl (fun ls hl => ?_)
              refine lv_goto (tgt := 10) hx hb dM_compact_81 (by decide) ?_
              exact ih_10 d (i + 1) (updN f i (r_by (r_word w x y z i) i)) (by omega) (by omega) hg _ _ (hP.sub [0, 1] rfl) (hD.sub [0, 1] (by decide) rfl) hS ls (lv_sub hl [2, 3, 4, 5, 6, 0] rfl)
          · skip
            have c_33 : i < 16 := n_nle c_33 (by omega) (by omega)
            refine lv_lload hx hb dM_compact_36 (lv_at hl 3 rfl) ?_
            refine tp_l (y := r_word w x y z i) (by unfold r_word; rw [if_neg (by omega), if_pos c_33]) ?_
            refine lv_goto (tgt := 53) hx hb dM_compact_38 (by decide) ?_
            refine lv_lstore (lv' := [(10, .long (r_word w x y z i)), (0, .ref o), (1, .long w), (3, .long x), (5, .long y), (7, .long z), (9, .int (nI i))]) hx hb dM_compact_53 hl (by decide) rfl (fun ls hl => ?_)
            refine lv_aload_n hx hb dM_compact_55 rfl (lv_at hl 1 rfl) ?_
            refine va_get (D := D) (ci := 3) (v := .ref aa) (C := RM) (T := TM) (N := 12) hx hb hts iM_compact_M hown hK hP 0 rfl rfl 8 (by decide) (hts (.fieldLink RM 30 "TreeDeskModel" "a" "[I") (by decide +kernel)) (fun _ h9 => h9) rfl dM_compact_56 ?_
            refine lv_iload hx hb dM_compact_59 (lv_at hl 6 rfl) ?_
            refine lv_lload hx hb dM_compact_61 (lv_at hl 0 rfl) ?_
            refine lv_bipush (v := nI 8) hx hb dM_compact_63 (by decide) ?_
            refine lv_iload hx hb dM_compact_65 (lv_at hl 6 rfl) ?_
            refine lv_bipush (v := nI 8) hx hb dM_compact_67 (by decide) ?_
            refine lv_irem hx hb dM_compact_69 (nI_ne0 (by omega) (by omega)) ?_
            refine tp_i (y := nI (i % 8)) (pk_rem (by omega) (by omega) (by omega)) ?_
            refine lv_imul hx hb dM_compact_70 ?_
            refine tp_i (y := nI (8 * (i % 8))) (pk_mul _ _) ?_
            refine lv_lshr (v := j_shr (r_word w x y z i) (nI (8 * (i % 8)))) hx hb dM_compact_71 rfl ?_
            refine lv_ldc2 (v := 255) hx hb hown (hts (.constantLong RM 70 255) (by decide +kernel)) dM_compact_72 ?_
            refine tp_l (y := lN 255) (by decide) ?_
            refine lv_land hx hb dM_compact_75 ?_
            refine lv_l2i (v := ((j_shr (r_word w x y z i) (nI (8 * (i % 8)))) &&& (lN 255)).toInt32) hx hb dM_compact_76 rfl ?_
            refine tp_i (y := nI (r_by (r_word w x y z i) i)) by_w ?_
            refine ar_ist (j := i) hx hb hK hP hD hS 1 0 rfl rfl dM_compact_77 (by omega) (by omega) (fun H locs hP hD hS => ?_)
            have hP : va_P D vwCl [(o, .inr (3, [.int (nI mo), .int (nI n), .ref aP, .ref aH, .ref aT, .ref aB, .ref aZ, .ref aS, .ref aa, .ref ab, .ref ac, .ref aR])), (aa, .inl (cI, 40, .inl (upd (nF f) i (nI (r_by (r_word w x y z i) i)))))] H := hP
            have hD : va_D A [(o, .inr (3, [.int (nI mo), .int (nI n), .ref aP, .ref aH, .ref aT, .ref aB, .ref aZ, .ref aS, .ref aa, .ref ab, .ref ac, .ref aR])), (aa, .inl (cI, 40, .inl (upd (nF f) i (nI (r_by (r_word w x y z i) i)))))] := hD
            have e_w77 : upd (nF f) i (nI (r_by (r_word w x y z i) i)) = nF (updN f i (r_by (r_word w x y z i) i)) := nF_u f i _
            rw [e_w77] at hP hD
            refine lv_iinc (v := nI (i + 1)) (lv' := [(9, .int (nI (i + 1))), (10, .long (r_word w x y z i)), (0, .ref o), (1, .long w), (3, .long x), (5, .long y), (7, .long z)]) hx hb dM_compact_78 hl (k := 6) rfl (nI_add _ 1) (by decide) rfl (fun ls hl => ?_)
            refine lv_goto (tgt := 10) hx hb dM_compact_81 (by decide) ?_
            exact ih_10 d (i + 1) (updN f i (r_by (r_word w x y z i) i)) (by omega) (by omega) hg _ _ (hP.sub [0, 1] rfl) (hD.sub [0, 1] (by decide) rfl) hS ls (lv_sub hl [2, 3, 4, 5, 6, 0] rfl)
        · skip
          have c_21 : i < 8 := n_nle c_21 (by omega) (by omega)
          refine lv_lload hx hb dM_compact_24 (lv_at hl 4 rfl) ?_
          refine tp_l (y := r_word w x y z i) (by unfold r_word; rw [if_pos c_21]) ?_
          refine lv_goto (tgt := 53) hx hb dM_compact_26 (by decide) ?_
          refine lv_lstore (lv' := [(10, .long (r_word w x y z i)), (0, .ref o), (1, .long w), (3, .long x), (5, .long y), (7, .long z), (9, .int (nI i))]) hx hb dM_compact_53 hl (by decide) rfl (fun ls hl => ?_)
          refine lv_aload_n hx hb dM_compact_55 rfl (lv_at hl 1 rfl) ?_
          refine va_get (D := D) (ci := 3) (v := .ref aa) (C := RM) (T := TM) (N := 12) hx hb hts iM_compact_M hown hK hP 0 rfl rfl 8 (by decide) (hts (.fieldLink RM 30 "TreeDeskModel" "a" "[I") (by decide +kernel)) (fun _ h9 => h9) rfl dM_compact_56 ?_
          refine lv_iload hx hb dM_compact_59 (lv_at hl 6 rfl) ?_
          refine lv_lload hx hb dM_compact_61 (lv_at hl 0 rfl) ?_
          refine lv_bipush (v := nI 8) hx hb dM_compact_63 (by decide) ?_
          refine lv_iload hx hb dM_compact_65 (lv_at hl 6 rfl) ?_
          refine lv_bipush (v := nI 8) hx hb dM_compact_67 (by decide) ?_
          refine lv_irem hx hb dM_compact_69 (nI_ne0 (by omega) (by omega)) ?_
          refine tp_i (y := nI (i % 8)) (pk_rem (by omega) (by omega) (by omega)) ?_
          refine lv_imul hx hb dM_compact_70 ?_
          refine tp_i (y := nI (8 * (i % 8))) (pk_mul _ _) ?_
          refine lv_lshr (v := j_shr (r_word w x y z i) (nI (8 * (i % 8)))) hx hb dM_compact_71 rfl ?_
          refine lv_ldc2 (v := 255) hx hb hown (hts (.constantLong RM 70 255) (by decide +kernel)) dM_compact_72 ?_
          refine tp_l (y := lN 255) (by decide) ?_
          refine lv_land hx hb dM_compact_75 ?_
          refine lv_l2i (v := ((j_shr (r_word w x y z i) (nI (8 * (i % 8)))) &&& (lN 255)).toInt32) hx hb dM_compact_76 rfl ?_
          refine tp_i (y := nI (r_by (r_word w x y z i) i)) by_w ?_
          refine ar_ist (j := i) hx hb hK hP hD hS 1 0 rfl rfl dM_compact_77 (by omega) (by omega) (fun H locs hP hD hS => ?_)
          have hP : va_P D vwCl [(o, .inr (3, [.int (nI mo), .int (nI n), .ref aP, .ref aH, .ref aT, .ref aB, .ref aZ, .ref aS, .ref aa, .ref ab, .ref ac, .ref aR])), (aa, .inl (cI, 40, .inl (upd (nF f) i (nI (r_by (r_word w x y z i) i)))))] H := hP
          have hD : va_D A [(o, .inr (3, [.int (nI mo), .int (nI n), .ref aP, .ref aH, .ref aT, .ref aB, .ref aZ, .ref aS, .ref aa, .ref ab, .ref ac, .ref aR])), (aa, .inl (cI, 40, .inl (upd (nF f) i (nI (r_by (r_word w x y z i) i)))))] := hD
          have e_w77 : upd (nF f) i (nI (r_by (r_word w x y z i) i)) = nF (updN f i (r_by (r_word w x y z i) i)) := nF_u f i _
          rw [e_w77] at hP hD
          refine lv_iinc (v := nI (i + 1)) (lv' := [(9, .int (nI (i + 1))), (10, .long (r_word w x y z i)), (0, .ref o), (1, .long w), (3, .long x), (5, .long y), (7, .long z)]) hx hb dM_compact_78 hl (k := 6) rfl (nI_add _ 1) (by decide) rfl (fun ls hl => ?_)
          refine lv_goto (tgt := 10) hx hb dM_compact_81 (by decide) ?_
          exact ih_10 d (i + 1) (updN f i (r_by (r_word w x y z i) i)) (by omega) (by omega) hg _ _ (hP.sub [0, 1] rfl) (hD.sub [0, 1] (by decide) rfl) hS ls (lv_sub hl [2, 3, 4, 5, 6, 0] rfl)
  exact lp_10 33 32 0 (zN α 40) (by omega) (by omega) rfl _ _ (hP.sub [0, 1] rfl) (hD.sub [0, 1] (by decide) rfl) hS ls (lv_sub hl [1, 2, 3, 4, 5, 0] rfl)

abbrev rm_k_must_ret : Room := { frames := 2, cells := 0, slots := 0, locals := 48 }
set_option maxRecDepth 100000 in
set_option maxHeartbeats 4000000 in
theorem k_must_ret (l : Launch) (D : va_G) (cI cJ cZ : ClassId) (o : Nat) (mo : Nat) (n : Nat) (aP : Nat) (aH : Nat) (aT : Nat) (aB : Nat) (aZ : Nat) (aS : Nat) (aa : Nat) (ab : Nat) (ac : Nat) (aR : Nat) (P : Nat → Nat) (Hh : Nat → Nat) (Tm : Nat → Int64) (Bt : Nat → Int64) (α : Nat → Nat) (β : Nat → Nat) (j : Nat) (v : Nat) (hn3 : n ≤ 300) (hj : j < n) (h8 : (Hh j + 1) % 8 = 0) (hbv : Bt j = lN v) (hv : v < 4294967296) (hα8 : by8 α) (hβ8 : by8 β) (hpar : ∀ x : Nat, 0 < x → x < n → P x < x) (hH0 : Hh 0 = 0) (hHs : ∀ x : Nat, 0 < x → x < n → Hh x = Hh (P x) + 1) (hHb : ∀ x : Nat, x < n → Hh x < 300) : rw_C l yM_must wM_must rm_k_must_ret D vwCl (gT cI cJ cZ) [.ref o, .int (nI j)] [(o, .inr (3, [.int (nI mo), .int (nI n), .ref aP, .ref aH, .ref aT, .ref aB, .ref aZ, .ref aS, .ref aa, .ref ab, .ref ac, .ref aR])), (aP, .inl (cI, 300, .inl (pF P))), (aH, .inl (cI, 300, .inl (nF Hh))), (aT, .inl (cJ, 300, .inr (.inl Tm))), (aB, .inl (cJ, 300, .inr (.inl Bt))), (aa, .inl (cI, 40, .inl (nF α))), (ab, .inl (cI, 40, .inl (nF β)))] (fun v9 w9 => v9 = some (.long (lN (r_must v (Tm j - Tm (m_anc P (Hh j - (Hh j - 7)) j)) α β))) ∧ w9 = [(o, .inr (3, [.int (nI mo), .int (nI n), .ref aP, .ref aH, .ref aT, .ref aB, .ref aZ, .ref aS, .ref aa, .ref ab, .ref ac, .ref aR])), (aP, .inl (cI, 300, .inl (pF P))), (aH, .inl (cI, 300, .inl (nF Hh))), (aT, .inl (cJ, 300, .inr (.inl Tm))), (aB, .inl (cJ, 300, .inr (.inl Bt))), (aa, .inl (cI, 40, .inl (nF (r_mustA v (Tm j - Tm (m_anc P (Hh j - (Hh j - 7)) j)) α)))), (ab, .inl (cI, 40, .inl (nF (r_open 545259519 β))))]) 0 0 := by
  refine rw_of (cc := cM_must) (maxL := 4) (ret := some .long) (by decide) rfl (Nat.le_of_ble_eq_true rfl) ?_
  intro p e s m args below meth c Q A ls hx hb hr hml hown hts hlocks hin hK hP hD hA hl hQ
  have hS : va_S A s.heap s.heap [] := va_S.rf
  have hl : lv_has ls 4 [(0, .ref o), (1, .int (nI j))] := hl
  have hown : s.vm.findClass RM = some m.cls := hown
  have hHj := hHb j hj
  have hanc : m_anc P (Hh j - (Hh j - 7)) j < n := m_anc_lt hpar hj
  obtain ⟨H, hHe⟩ : ∃ H : Heap, H = s.heap := ⟨_, rfl⟩
  rw [← hHe] at hP
  have hS : va_S A s.heap H [] := by rw [hHe]; exact va_S.rf
  suffices h9 : W p l e rm_k_must_ret s m args below meth c H [] 0 0 Q (F0 m 0 ls []) by rw [hHe] at h9; exact h9
  clear hHe
  refine lv_aload_n hx hb dM_must_0 rfl (lv_at hl 0 rfl) ?_
  refine lv_iload_n hx hb dM_must_1 rfl (lv_at hl 1 rfl) ?_
  refine ro_ki (va_runV (As := [.int (nI j)]) (rest := []) ⟨hx, hb, hml, hown, hts⟩ (k_isBlock_ok l D cI cJ cZ o mo n aP aH aT aB aZ aS aa ab ac aR j (by omega) (by omega)) (cwV 1 hts gM_must_M_isBlock_102 rfl rfl rfl (by decide +kernel) ⟨Nat.le_of_ble_eq_true rfl, Nat.le_of_ble_eq_true rfl⟩) (ro_preV (hP.sub [0] rfl) hK (va_recv hK hP (ci := 3) (q0 := 0) rfl rfl)) rfl rfl hl.1 rfl (lv_room (Nat.le_of_ble_eq_true rfl)) dM_must_2 ⟨Nat.le_of_ble_eq_true rfl, Nat.le_of_ble_eq_true rfl⟩) ?_
  refine lv_if_ne (tgt := 12) hx hb dM_must_5 (by decide) (fun c_5 => ?_) (fun c_5 => ?_)
  · skip
    rw [← nI_0] at c_5
    have c_5 : ¬ 1 = 0 := n_ne c_5
    refine lv_aload_n hx hb dM_must_12 rfl (lv_at hl 0 rfl) ?_
    refine va_get (D := D) (ci := 3) (v := .ref aH) (C := RM) (T := TM) (N := 12) hx hb hts iM_must_M hown hK hP 0 rfl rfl 3 (by decide) (hts (.fieldLink RM 13 "TreeDeskModel" "height" "[I") (by decide +kernel)) (fun _ h9 => h9) rfl dM_must_13 ?_
    refine lv_iload_n hx hb dM_must_16 rfl (lv_at hl 1 rfl) ?_
    refine ar_ild (j := j) hx hb hK hP 2 0 rfl rfl dM_must_17 (by omega) (by omega) ?_
    refine tp_i (y := nI (Hh j)) rfl ?_
    refine lv_iconst (v := nI 1) hx hb dM_must_18 (by decide) ?_
    refine lv_iadd hx hb dM_must_19 ?_
    refine tp_i (y := nI ((Hh j) + 1)) (nI_add _ _) ?_
    refine lv_bipush (v := nI 8) hx hb dM_must_20 (by decide) ?_
    refine lv_irem hx hb dM_must_22 (nI_ne0 (by omega) (by omega)) ?_
    refine tp_i (y := nI (((Hh j) + 1) % 8)) (pk_rem (by omega) (by omega) (by omega)) ?_
    refine lv_if_eq (tgt := 33) hx hb dM_must_23 (by decide) (fun c_23 => ?_) (fun c_23 => ?_)
    · skip
      rw [← nI_0] at c_23
      have c_23 : (((Hh j) + 1) % 8) = 0 := n_eq c_23 (by omega) (by omega)
      refine lv_aload_n hx hb dM_must_33 rfl (lv_at hl 0 rfl) ?_
      refine va_get (D := D) (ci := 3) (v := .ref aT) (C := RM) (T := TM) (N := 12) hx hb hts iM_must_M hown hK hP 0 rfl rfl 4 (by decide) (hts (.fieldLink RM 16 "TreeDeskModel" "time" "[J") (by decide +kernel)) (fun _ h9 => h9) rfl dM_must_34 ?_
      refine lv_iload_n hx hb dM_must_37 rfl (lv_at hl 1 rfl) ?_
      refine ar_lld (j := j) hx hb hK hP 3 1 rfl rfl dM_must_38 (by omega) (by omega) ?_
      refine lv_aload_n hx hb dM_must_39 rfl (lv_at hl 0 rfl) ?_
      refine va_get (D := D) (ci := 3) (v := .ref aT) (C := RM) (T := TM) (N := 12) hx hb hts iM_must_M hown hK hP 0 rfl rfl 4 (by decide) (hts (.fieldLink RM 16 "TreeDeskModel" "time" "[J") (by decide +kernel)) (fun _ h9 => h9) rfl dM_must_40 ?_
      refine lv_aload_n hx hb dM_must_43 rfl (lv_at hl 0 rfl) ?_
      refine lv_iload_n hx hb dM_must_44 rfl (lv_at hl 1 rfl) ?_
      refine lv_aload_n hx hb dM_must_45 rfl (lv_at hl 0 rfl) ?_
      refine va_get (D := D) (ci := 3) (v := .ref aH) (C := RM) (T := TM) (N := 12) hx hb hts iM_must_M hown hK hP 0 rfl rfl 3 (by decide) (hts (.fieldLink RM 13 "TreeDeskModel" "height" "[I") (by decide +kernel)) (fun _ h9 => h9) rfl dM_must_46 ?_
      refine lv_iload_n hx hb dM_must_49 rfl (lv_at hl 1 rfl) ?_
      refine ar_ild (j := j) hx hb hK hP 2 0 rfl rfl dM_must_50 (by omega) (by omega) ?_
      refine tp_i (y := nI (Hh j)) rfl ?_
      refine lv_bipush (v := nI 7) hx hb dM_must_51 (by decide) ?_
      refine lv_isub hx hb dM_must_53 ?_
      refine tp_i (y := nI ((Hh j) - 7)) (pk_sub (by omega)) ?_
      refine ro_ki (va_runV (As := [.int (nI j), .int (nI ((Hh j) - 7))]) (rest := [.ref aT, .long (Tm j)]) ⟨hx, hb, hml, hown, hts⟩ (k_below l D cI cJ cZ o mo n aP aH aT aB aZ aS aa ab ac aR P Hh j ((Hh j) - 7) (by omega) (by omega) (by omega) hpar hH0 hHs hHb) (cwV 2 hts gM_must_M_below_108 rfl rfl rfl (by decide +kernel) ⟨Nat.le_of_ble_eq_true rfl, Nat.le_of_ble_eq_true rfl⟩) (ro_preV (hP.sub [0, 1, 2] rfl) hK (va_recv hK hP (ci := 3) (q0 := 0) rfl rfl)) rfl rfl hl.1 rfl (lv_room (Nat.le_of_ble_eq_true rfl)) dM_must_54 ⟨Nat.le_of_ble_eq_true rfl, Nat.le_of_ble_eq_true rfl⟩) ?_
      refine tp_i (y := nI (m_anc P (Hh j - (Hh j - 7)) j)) (by unfold r_bel; rw [if_pos (by omega)]) ?_
      refine ar_lld (j := m_anc P (Hh j - (Hh j - 7)) j) hx hb hK hP 3 1 rfl rfl dM_must_57 (by omega) (by omega) ?_
      refine lv_lsub hx hb dM_must_58 ?_
      refine lv_lstore_n (lv' := [(2, .long ((Tm j) - (Tm (m_anc P (Hh j - (Hh j - 7)) j)))), (0, .ref o), (1, .int (nI j))]) hx hb dM_must_59 rfl hl (by decide) rfl (fun ls hl => ?_)
      refine lv_lload_n hx hb dM_must_60 rfl (lv_at hl 0 rfl) ?_
      refine lv_ldc2 (v := 1200) hx hb hown (hts (.constantLong RM 112 1200) (by decide +kernel)) dM_must_61 ?_
      refine tp_l (y := lN 1200) (by decide) ?_
      refine lc_ge (tgt := 74) hx hb dM_must_64 dM_must_65 (by decide) (fun c_65 => ?_) (fun c_65 => ?_)
      · skip
        refine lv_lload_n hx hb dM_must_74 rfl (lv_at hl 0 rfl) ?_
        refine lv_ldc2 (v := 19200) hx hb hown (hts (.constantLong RM 114 19200) (by decide +kernel)) dM_must_75 ?_
        refine tp_l (y := lN 19200) (by decide) ?_
        refine lc_le (tgt := 88) hx hb dM_must_78 dM_must_79 (by decide) (fun c_79 => ?_) (fun c_79 => ?_)
        · skip
          refine lv_lload_n hx hb dM_must_88 rfl (lv_at hl 0 rfl) ?_
          refine tp_l (y := lN (r_cl (Tm j - Tm (m_anc P (Hh j - (Hh j - 7)) j)))) (r_cl_3 c_65 c_79) ?_
          refine lv_lstore_n (lv' := [(2, .long (lN (r_cl (Tm j - Tm (m_anc P (Hh j - (Hh j - 7)) j))))), (0, .ref o), (1, .int (nI j))]) hx hb dM_must_89 rfl hl (by decide) rfl (fun ls hl => ?_)
          refine lv_aload_n hx hb dM_must_90 rfl (lv_at hl 1 rfl) ?_
          refine va_get (D := D) (ci := 3) (v := .ref aB) (C := RM) (T := TM) (N := 12) hx hb hts iM_must_M hown hK hP 0 rfl rfl 5 (by decide) (hts (.fieldLink RM 20 "TreeDeskModel" "bits" "[J") (by decide +kernel)) (fun _ h9 => h9) rfl dM_must_91 ?_
          refine lv_iload_n hx hb dM_must_94 rfl (lv_at hl 2 rfl) ?_
          refine ar_lld (j := j) hx hb hK hP 4 1 rfl rfl dM_must_95 (by omega) (by omega) ?_
          refine tp_l (y := lN v) hbv ?_
          refine lv_aload_n hx hb dM_must_96 rfl (lv_at hl 1 rfl) ?_
          refine va_get (D := D) (ci := 3) (v := .ref aa) (C := RM) (T := TM) (N := 12) hx hb hts iM_must_M hown hK hP 0 rfl rfl 8 (by decide) (hts (.fieldLink RM 30 "TreeDeskModel" "a" "[I") (by decide +kernel)) (fun _ h9 => h9) rfl dM_must_97 ?_
          refine rw_k (wc := [(aa, .inl (cI, 40, .inl (nF α)))]) (wr := [(o, .inr (3, [.int (nI mo), .int (nI n), .ref aP, .ref aH, .ref aT, .ref aB, .ref aZ, .ref aS, .ref aa, .ref ab, .ref ac, .ref aR])), (aP, .inl (cI, 300, .inl (pF P))), (aH, .inl (cI, 300, .inl (nF Hh))), (aT, .inl (cJ, 300, .inr (.inl Tm))), (aB, .inl (cJ, 300, .inr (.inl Bt))), (ab, .inl (cI, 40, .inl (nF β)))]) (va_runS (As := [.long (lN v), .ref aa]) (rest := []) ⟨hx, hb, hml, hown, hts⟩ (k_open l D cI cJ cZ aa α v hv H.size) (va_cwS 2 hts gM_must_M_open_57 rfl rfl rfl (by decide +kernel) ⟨Nat.le_of_ble_eq_true rfl, Nat.le_of_ble_eq_true rfl⟩) (rw_preS (hP.sub [5] rfl) hK (hD.sub [5] (by decide) rfl)) rfl rfl hl.1 rfl (lv_room (Nat.le_of_ble_eq_true rfl)) dM_must_100 ⟨Nat.le_of_ble_eq_true rfl, Nat.le_of_ble_eq_true rfl⟩) hP hD hS hA [5] [0, 1, 2, 3, 4, 6] rfl rfl (by decide) (by decide) (fun v9 w9 H locs hp9 hP hD hS => ?_)
          obtain ⟨rfl, rfl⟩ := hp9
          have hP : va_P D vwCl [(o, .inr (3, [.int (nI mo), .int (nI n), .ref aP, .ref aH, .ref aT, .ref aB, .ref aZ, .ref aS, .ref aa, .ref ab, .ref ac, .ref aR])), (aP, .inl (cI, 300, .inl (pF P))), (aH, .inl (cI, 300, .inl (nF Hh))), (aT, .inl (cJ, 300, .inr (.inl Tm))), (aB, .inl (cJ, 300, .inr (.inl Bt))), (ab, .inl (cI, 40, .inl (nF β))), (aa, .inl (cI, 40, .inl (nF (r_open v α))))] H := hP
          have hD : va_D A [(o, .inr (3, [.int (nI mo), .int (nI n), .ref aP, .ref aH, .ref aT, .ref aB, .ref aZ, .ref aS, .ref aa, .ref ab, .ref ac, .ref aR])), (aP, .inl (cI, 300, .inl (pF P))), (aH, .inl (cI, 300, .inl (nF Hh))), (aT, .inl (cJ, 300, .inr (.inl Tm))), (aB, .inl (cJ, 300, .inr (.inl Bt))), (ab, .inl (cI, 40, .inl (nF β))), (aa, .inl (cI, 40, .inl (nF (r_open v α))))] := hD
          refine W.eq (g2 := F0 m 103 ls []) rfl ?_
          refine lv_aload_n hx hb dM_must_103 rfl (lv_at hl 1 rfl) ?_
          refine lv_lload_n hx hb dM_must_104 rfl (lv_at hl 0 rfl) ?_
          refine lv_ldc2 (v := 4800) hx hb hown (hts (.constantLong RM 116 4800) (by decide +kernel)) dM_must_105 ?_
          refine tp_l (y := lN 4800) (by decide) ?_
          refine rw_k (wc := [(o, .inr (3, [.int (nI mo), .int (nI n), .ref aP, .ref aH, .ref aT, .ref aB, .ref aZ, .ref aS, .ref aa, .ref ab, .ref ac, .ref aR])), (aa, .inl (cI, 40, .inl (nF (r_open v α))))]) (wr := [(aP, .inl (cI, 300, .inl (pF P))), (aH, .inl (cI, 300, .inl (nF Hh))), (aT, .inl (cJ, 300, .inr (.inl Tm))), (aB, .inl (cJ, 300, .inr (.inl Bt))), (ab, .inl (cI, 40, .inl (nF β)))]) (va_runV (As := [.long (lN (r_cl (Tm j - Tm (m_anc P (Hh j - (Hh j - 7)) j)))), .long (lN 4800)]) (rest := []) ⟨hx, hb, hml, hown, hts⟩ (k_scale l D cI cJ cZ o mo n aP aH aT aB aZ aS aa ab ac aR (r_open v α) (r_cl (Tm j - Tm (m_anc P (Hh j - (Hh j - 7)) j))) 4800 (r_open_by hα8) (r_cl_le _) (by omega) (by omega) H.size) (cwV 2 hts gM_must_M_scale_118 rfl rfl rfl (by decide +kernel) ⟨Nat.le_of_ble_eq_true rfl, Nat.le_of_ble_eq_true rfl⟩) (rw_preV (hP.sub [0, 6] rfl) hK (hD.sub [0, 6] (by decide) rfl) (va_recv hK hP (ci := 3) (q0 := 0) rfl rfl)) rfl rfl hl.1 rfl (lv_room (Nat.le_of_ble_eq_true rfl)) dM_must_108 ⟨Nat.le_of_ble_eq_true rfl, Nat.le_of_ble_eq_true rfl⟩) hP hD hS hA [0, 6] [1, 2, 3, 4, 5] rfl rfl (by decide) (by decide) (fun v9 w9 H locs hp9 hP hD hS => ?_)
          obtain ⟨rfl, rfl⟩ := hp9
          have hP : va_P D vwCl [(aP, .inl (cI, 300, .inl (pF P))), (aH, .inl (cI, 300, .inl (nF Hh))), (aT, .inl (cJ, 300, .inr (.inl Tm))), (aB, .inl (cJ, 300, .inr (.inl Bt))), (ab, .inl (cI, 40, .inl (nF β))), (o, .inr (3, [.int (nI mo), .int (nI n), .ref aP, .ref aH, .ref aT, .ref aB, .ref aZ, .ref aS, .ref aa, .ref ab, .ref ac, .ref aR])), (aa, .inl (cI, 40, .inl (nF (r_scale (r_cl (Tm j - Tm (m_anc P (Hh j - (Hh j - 7)) j))) 4800 (r_open v α)))))] H := hP
          have hD : va_D A [(aP, .inl (cI, 300, .inl (pF P))), (aH, .inl (cI, 300, .inl (nF Hh))), (aT, .inl (cJ, 300, .inr (.inl Tm))), (aB, .inl (cJ, 300, .inr (.inl Bt))), (ab, .inl (cI, 40, .inl (nF β))), (o, .inr (3, [.int (nI mo), .int (nI n), .ref aP, .ref aH, .ref aT, .ref aB, .ref aZ, .ref aS, .ref aa, .ref ab, .ref ac, .ref aR])), (aa, .inl (cI, 40, .inl (nF (r_scale (r_cl (Tm j - Tm (m_anc P (Hh j - (Hh j - 7)) j))) 4800 (r_open v α)))))] := hD
          refine W.eq (g2 := F0 m 111 ls []) rfl ?_
          have e_w108 : nF (r_scale (r_cl (Tm j - Tm (m_anc P (Hh j - (Hh j - 7)) j))) 4800 (r_open v α)) = nF (r_mustA v (Tm j - Tm (m_anc P (Hh j - (Hh j - 7)) j)) α) := rfl
          rw [e_w108] at hP hD
          refine lv_ldc2 (v := 545259519) hx hb hown (hts (.constantLong RM 48 545259519) (by decide +kernel)) dM_must_111 ?_
          refine tp_l (y := lN 545259519) (by decide) ?_
          refine lv_aload_n hx hb dM_must_114 rfl (lv_at hl 1 rfl) ?_
          refine va_get (D := D) (ci := 3) (v := .ref ab) (C := RM) (T := TM) (N := 12) hx hb hts iM_must_M hown hK hP 5 rfl rfl 9 (by decide) (hts (.fieldLink RM 33 "TreeDeskModel" "b" "[I") (by decide +kernel)) (fun _ h9 => h9) rfl dM_must_115 ?_
          refine rw_k (wc := [(ab, .inl (cI, 40, .inl (nF β)))]) (wr := [(aP, .inl (cI, 300, .inl (pF P))), (aH, .inl (cI, 300, .inl (nF Hh))), (aT, .inl (cJ, 300, .inr (.inl Tm))), (aB, .inl (cJ, 300, .inr (.inl Bt))), (o, .inr (3, [.int (nI mo), .int (nI n), .ref aP, .ref aH, .ref aT, .ref aB, .ref aZ, .ref aS, .ref aa, .ref ab, .ref ac, .ref aR])), (aa, .inl (cI, 40, .inl (nF (r_mustA v (Tm j - Tm (m_anc P (Hh j - (Hh j - 7)) j)) α))))]) (va_runS (As := [.long (lN 545259519), .ref ab]) (rest := []) ⟨hx, hb, hml, hown, hts⟩ (k_open l D cI cJ cZ ab β 545259519 (by omega) H.size) (va_cwS 2 hts gM_must_M_open_57 rfl rfl rfl (by decide +kernel) ⟨Nat.le_of_ble_eq_true rfl, Nat.le_of_ble_eq_true rfl⟩) (rw_preS (hP.sub [4] rfl) hK (hD.sub [4] (by decide) rfl)) rfl rfl hl.1 rfl (lv_room (Nat.le_of_ble_eq_true rfl)) dM_must_118 ⟨Nat.le_of_ble_eq_true rfl, Nat.le_of_ble_eq_true rfl⟩) hP hD hS hA [4] [0, 1, 2, 3, 5, 6] rfl rfl (by decide) (by decide) (fun v9 w9 H locs hp9 hP hD hS => ?_)
          obtain ⟨rfl, rfl⟩ := hp9
          have hP : va_P D vwCl [(aP, .inl (cI, 300, .inl (pF P))), (aH, .inl (cI, 300, .inl (nF Hh))), (aT, .inl (cJ, 300, .inr (.inl Tm))), (aB, .inl (cJ, 300, .inr (.inl Bt))), (o, .inr (3, [.int (nI mo), .int (nI n), .ref aP, .ref aH, .ref aT, .ref aB, .ref aZ, .ref aS, .ref aa, .ref ab, .ref ac, .ref aR])), (aa, .inl (cI, 40, .inl (nF (r_mustA v (Tm j - Tm (m_anc P (Hh j - (Hh j - 7)) j)) α)))), (ab, .inl (cI, 40, .inl (nF (r_open 545259519 β))))] H := hP
          have hD : va_D A [(aP, .inl (cI, 300, .inl (pF P))), (aH, .inl (cI, 300, .inl (nF Hh))), (aT, .inl (cJ, 300, .inr (.inl Tm))), (aB, .inl (cJ, 300, .inr (.inl Bt))), (o, .inr (3, [.int (nI mo), .int (nI n), .ref aP, .ref aH, .ref aT, .ref aB, .ref aZ, .ref aS, .ref aa, .ref ab, .ref ac, .ref aR])), (aa, .inl (cI, 40, .inl (nF (r_mustA v (Tm j - Tm (m_anc P (Hh j - (Hh j - 7)) j)) α)))), (ab, .inl (cI, 40, .inl (nF (r_open 545259519 β))))] := hD
          refine W.eq (g2 := F0 m 121 ls []) rfl ?_
          refine lv_aload_n hx hb dM_must_121 rfl (lv_at hl 1 rfl) ?_
          refine va_get (D := D) (ci := 3) (v := .ref aa) (C := RM) (T := TM) (N := 12) hx hb hts iM_must_M hown hK hP 4 rfl rfl 8 (by decide) (hts (.fieldLink RM 30 "TreeDeskModel" "a" "[I") (by decide +kernel)) (fun _ h9 => h9) rfl dM_must_122 ?_
          refine lv_aload_n hx hb dM_must_125 rfl (lv_at hl 1 rfl) ?_
          refine va_get (D := D) (ci := 3) (v := .ref ab) (C := RM) (T := TM) (N := 12) hx hb hts iM_must_M hown hK hP 4 rfl rfl 9 (by decide) (hts (.fieldLink RM 33 "TreeDeskModel" "b" "[I") (by decide +kernel)) (fun _ h9 => h9) rfl dM_must_126 ?_
          refine ro_ki (va_runS (As := [.ref aa, .ref ab]) (rest := []) ⟨hx, hb, hml, hown, hts⟩ (k_compareRows l D cI cJ cZ aa ab (r_mustA v (Tm j - Tm (m_anc P (Hh j - (Hh j - 7)) j)) α) (r_open 545259519 β) (r_mustA_by hα8) (r_open_by hβ8)) (va_cwS 2 hts gM_must_M_compareRows_72 rfl rfl rfl (by decide +kernel) ⟨Nat.le_of_ble_eq_true rfl, Nat.le_of_ble_eq_true rfl⟩) (ro_preS (hP.sub [5, 6] rfl) hK) rfl rfl hl.1 rfl (lv_room (Nat.le_of_ble_eq_true rfl)) dM_must_129 ⟨Nat.le_of_ble_eq_true rfl, Nat.le_of_ble_eq_true rfl⟩) ?_
          refine lv_if_le (tgt := 145) hx hb dM_must_132 (by decide) (fun c_132 => ?_) (fun c_132 => ?_)
          · skip
            refine lv_aload_n hx hb dM_must_145 rfl (lv_at hl 1 rfl) ?_
            refine va_get (D := D) (ci := 3) (v := .ref aa) (C := RM) (T := TM) (N := 12) hx hb hts iM_must_M hown hK hP 4 rfl rfl 8 (by decide) (hts (.fieldLink RM 30 "TreeDeskModel" "a" "[I") (by decide +kernel)) (fun _ h9 => h9) rfl dM_must_146 ?_
            refine ro_kl (va_runS (As := [.ref aa]) (rest := []) ⟨hx, hb, hml, hown, hts⟩ (k_compactOf l D cI cJ cZ aa (r_mustA v (Tm j - Tm (m_anc P (Hh j - (Hh j - 7)) j)) α) (r_mustA_by hα8)) (va_cwS 1 hts gM_must_M_compactOf_98 rfl rfl rfl (by decide +kernel) ⟨Nat.le_of_ble_eq_true rfl, Nat.le_of_ble_eq_true rfl⟩) (ro_preS (hP.sub [5] rfl) hK) rfl rfl hl.1 rfl (lv_room (Nat.le_of_ble_eq_true rfl)) dM_must_149 ⟨Nat.le_of_ble_eq_true rfl, Nat.le_of_ble_eq_true rfl⟩) ?_
            exact rw_lret (w := [(o, .inr (3, [.int (nI mo), .int (nI n), .ref aP, .ref aH, .ref aT, .ref aB, .ref aZ, .ref aS, .ref aa, .ref ab, .ref ac, .ref aR])), (aP, .inl (cI, 300, .inl (pF P))), (aH, .inl (cI, 300, .inl (nF Hh))), (aT, .inl (cJ, 300, .inr (.inl Tm))), (aB, .inl (cJ, 300, .inr (.inl Bt))), (aa, .inl (cI, 40, .inl (nF (r_mustA v (Tm j - Tm (m_anc P (Hh j - (Hh j - 7)) j)) α)))), (ab, .inl (cI, 40, .inl (nF (r_open 545259519 β))))]) hQ hx hb hr hlocks dM_must_152 (hP.sub [4, 0, 1, 2, 3, 5, 6] rfl) (hD.sub [4, 0, 1, 2, 3, 5, 6] (by decide) rfl) hS ⟨congrArg (fun z => some (Value.long (lN z))) (by unfold r_must; rw [if_pos c_132]), rfl⟩
          · skip
            refine lv_aload_n hx hb dM_must_135 rfl (lv_at hl 1 rfl) ?_
            refine va_get (D := D) (ci := 3) (v := .ref ab) (C := RM) (T := TM) (N := 12) hx hb hts iM_must_M hown hK hP 4 rfl rfl 9 (by decide) (hts (.fieldLink RM 33 "TreeDeskModel" "b" "[I") (by decide +kernel)) (fun _ h9 => h9) rfl dM_must_136 ?_
            refine ro_kl (va_runS (As := [.ref ab]) (rest := []) ⟨hx, hb, hml, hown, hts⟩ (k_compactOf l D cI cJ cZ ab (r_open 545259519 β) (r_open_by hβ8)) (va_cwS 1 hts gM_must_M_compactOf_98 rfl rfl rfl (by decide +kernel) ⟨Nat.le_of_ble_eq_true rfl, Nat.le_of_ble_eq_true rfl⟩) (ro_preS (hP.sub [6] rfl) hK) rfl rfl hl.1 rfl (lv_room (Nat.le_of_ble_eq_true rfl)) dM_must_139 ⟨Nat.le_of_ble_eq_true rfl, Nat.le_of_ble_eq_true rfl⟩) ?_
            refine lv_goto (tgt := 152) hx hb dM_must_142 (by decide) ?_
            exact rw_lret (w := [(o, .inr (3, [.int (nI mo), .int (nI n), .ref aP, .ref aH, .ref aT, .ref aB, .ref aZ, .ref aS, .ref aa, .ref ab, .ref ac, .ref aR])), (aP, .inl (cI, 300, .inl (pF P))), (aH, .inl (cI, 300, .inl (nF Hh))), (aT, .inl (cJ, 300, .inr (.inl Tm))), (aB, .inl (cJ, 300, .inr (.inl Bt))), (aa, .inl (cI, 40, .inl (nF (r_mustA v (Tm j - Tm (m_anc P (Hh j - (Hh j - 7)) j)) α)))), (ab, .inl (cI, 40, .inl (nF (r_open 545259519 β))))]) hQ hx hb hr hlocks dM_must_152 (hP.sub [4, 0, 1, 2, 3, 5, 6] rfl) (hD.sub [4, 0, 1, 2, 3, 5, 6] (by decide) rfl) hS ⟨congrArg (fun z => some (Value.long (lN z))) (by unfold r_must; rw [if_neg c_132]), rfl⟩
        · skip
          refine lv_ldc2 (v := 19200) hx hb hown (hts (.constantLong RM 114 19200) (by decide +kernel)) dM_must_82 ?_
          refine tp_l (y := lN 19200) (by decide) ?_
          refine tp_l (y := lN (r_cl (Tm j - Tm (m_anc P (Hh j - (Hh j - 7)) j)))) (r_cl_2 c_65 c_79) ?_
          refine lv_goto (tgt := 89) hx hb dM_must_85 (by decide) ?_
          refine lv_lstore_n (lv' := [(2, .long (lN (r_cl (Tm j - Tm (m_anc P (Hh j - (Hh j - 7)) j))))), (0, .ref o), (1, .int (nI j))]) hx hb dM_must_89 rfl hl (by decide) rfl (fun ls hl => ?_)
          refine lv_aload_n hx hb dM_must_90 rfl (lv_at hl 1 rfl) ?_
          refine va_get (D := D) (ci := 3) (v := .ref aB) (C := RM) (T := TM) (N := 12) hx hb hts iM_must_M hown hK hP 0 rfl rfl 5 (by decide) (hts (.fieldLink RM 20 "TreeDeskModel" "bits" "[J") (by decide +kernel)) (fun _ h9 => h9) rfl dM_must_91 ?_
          refine lv_iload_n hx hb dM_must_94 rfl (lv_at hl 2 rfl) ?_
          refine ar_lld (j := j) hx hb hK hP 4 1 rfl rfl dM_must_95 (by omega) (by omega) ?_
          refine tp_l (y := lN v) hbv ?_
          refine lv_aload_n hx hb dM_must_96 rfl (lv_at hl 1 rfl) ?_
          refine va_get (D := D) (ci := 3) (v := .ref aa) (C := RM) (T := TM) (N := 12) hx hb hts iM_must_M hown hK hP 0 rfl rfl 8 (by decide) (hts (.fieldLink RM 30 "TreeDeskModel" "a" "[I") (by decide +kernel)) (fun _ h9 => h9) rfl dM_must_97 ?_
          refine rw_k (wc := [(aa, .inl (cI, 40, .inl (nF α)))]) (wr := [(o, .inr (3, [.int (nI mo), .int (nI n), .ref aP, .ref aH, .ref aT, .ref aB, .ref aZ, .ref aS, .ref aa, .ref ab, .ref ac, .ref aR])), (aP, .inl (cI, 300, .inl (pF P))), (aH, .inl (cI, 300, .inl (nF Hh))), (aT, .inl (cJ, 300, .inr (.inl Tm))), (aB, .inl (cJ, 300, .inr (.inl Bt))), (ab, .inl (cI, 40, .inl (nF β)))]) (va_runS (As := [.long (lN v), .ref aa]) (rest := []) ⟨hx, hb, hml, hown, hts⟩ (k_open l D cI cJ cZ aa α v hv H.size) (va_cwS 2 hts gM_must_M_open_57 rfl rfl rfl (by decide +kernel) ⟨Nat.le_of_ble_eq_true rfl, Nat.le_of_ble_eq_true rfl⟩) (rw_preS (hP.sub [5] rfl) hK (hD.sub [5] (by decide) rfl)) rfl rfl hl.1 rfl (lv_room (Nat.le_of_ble_eq_true rfl)) dM_must_100 ⟨Nat.le_of_ble_eq_true rfl, Nat.le_of_ble_eq_true rfl⟩) hP hD hS hA [5] [0, 1, 2, 3, 4, 6] rfl rfl (by decide) (by decide) (fun v9 w9 H locs hp9 hP hD hS => ?_)
          obtain ⟨rfl, rfl⟩ := hp9
          have hP : va_P D vwCl [(o, .inr (3, [.int (nI mo), .int (nI n), .ref aP, .ref aH, .ref aT, .ref aB, .ref aZ, .ref aS, .ref aa, .ref ab, .ref ac, .ref aR])), (aP, .inl (cI, 300, .inl (pF P))), (aH, .inl (cI, 300, .inl (nF Hh))), (aT, .inl (cJ, 300, .inr (.inl Tm))), (aB, .inl (cJ, 300, .inr (.inl Bt))), (ab, .inl (cI, 40, .inl (nF β))), (aa, .inl (cI, 40, .inl (nF (r_open v α))))] H := hP
          have hD : va_D A [(o, .inr (3, [.int (nI mo), .int (nI n), .ref aP, .ref aH, .ref aT, .ref aB, .ref aZ, .ref aS, .ref aa, .ref ab, .ref ac, .ref aR])), (aP, .inl (cI, 300, .inl (pF P))), (aH, .inl (cI, 300, .inl (nF Hh))), (aT, .inl (cJ, 300, .inr (.inl Tm))), (aB, .inl (cJ, 300, .inr (.inl Bt))), (ab, .inl (cI, 40, .inl (nF β))), (aa, .inl (cI, 40, .inl (nF (r_open v α))))] := hD
          refine W.eq (g2 := F0 m 103 ls []) rfl ?_
          refine lv_aload_n hx hb dM_must_103 rfl (lv_at hl 1 rfl) ?_
          refine lv_lload_n hx hb dM_must_104 rfl (lv_at hl 0 rfl) ?_
          refine lv_ldc2 (v := 4800) hx hb hown (hts (.constantLong RM 116 4800) (by decide +kernel)) dM_must_105 ?_
          refine tp_l (y := lN 4800) (by decide) ?_
          refine rw_k (wc := [(o, .inr (3, [.int (nI mo), .int (nI n), .ref aP, .ref aH, .ref aT, .ref aB, .ref aZ, .ref aS, .ref aa, .ref ab, .ref ac, .ref aR])), (aa, .inl (cI, 40, .inl (nF (r_open v α))))]) (wr := [(aP, .inl (cI, 300, .inl (pF P))), (aH, .inl (cI, 300, .inl (nF Hh))), (aT, .inl (cJ, 300, .inr (.inl Tm))), (aB, .inl (cJ, 300, .inr (.inl Bt))), (ab, .inl (cI, 40, .inl (nF β)))]) (va_runV (As := [.long (lN (r_cl (Tm j - Tm (m_anc P (Hh j - (Hh j - 7)) j)))), .long (lN 4800)]) (rest := []) ⟨hx, hb, hml, hown, hts⟩ (k_scale l D cI cJ cZ o mo n aP aH aT aB aZ aS aa ab ac aR (r_open v α) (r_cl (Tm j - Tm (m_anc P (Hh j - (Hh j - 7)) j))) 4800 (r_open_by hα8) (r_cl_le _) (by omega) (by omega) H.size) (cwV 2 hts gM_must_M_scale_118 rfl rfl rfl (by decide +kernel) ⟨Nat.le_of_ble_eq_true rfl, Nat.le_of_ble_eq_true rfl⟩) (rw_preV (hP.sub [0, 6] rfl) hK (hD.sub [0, 6] (by decide) rfl) (va_recv hK hP (ci := 3) (q0 := 0) rfl rfl)) rfl rfl hl.1 rfl (lv_room (Nat.le_of_ble_eq_true rfl)) dM_must_108 ⟨Nat.le_of_ble_eq_true rfl, Nat.le_of_ble_eq_true rfl⟩) hP hD hS hA [0, 6] [1, 2, 3, 4, 5] rfl rfl (by decide) (by decide) (fun v9 w9 H locs hp9 hP hD hS => ?_)
          obtain ⟨rfl, rfl⟩ := hp9
          have hP : va_P D vwCl [(aP, .inl (cI, 300, .inl (pF P))), (aH, .inl (cI, 300, .inl (nF Hh))), (aT, .inl (cJ, 300, .inr (.inl Tm))), (aB, .inl (cJ, 300, .inr (.inl Bt))), (ab, .inl (cI, 40, .inl (nF β))), (o, .inr (3, [.int (nI mo), .int (nI n), .ref aP, .ref aH, .ref aT, .ref aB, .ref aZ, .ref aS, .ref aa, .ref ab, .ref ac, .ref aR])), (aa, .inl (cI, 40, .inl (nF (r_scale (r_cl (Tm j - Tm (m_anc P (Hh j - (Hh j - 7)) j))) 4800 (r_open v α)))))] H := hP
          have hD : va_D A [(aP, .inl (cI, 300, .inl (pF P))), (aH, .inl (cI, 300, .inl (nF Hh))), (aT, .inl (cJ, 300, .inr (.inl Tm))), (aB, .inl (cJ, 300, .inr (.inl Bt))), (ab, .inl (cI, 40, .inl (nF β))), (o, .inr (3, [.int (nI mo), .int (nI n), .ref aP, .ref aH, .ref aT, .ref aB, .ref aZ, .ref aS, .ref aa, .ref ab, .ref ac, .ref aR])), (aa, .inl (cI, 40, .inl (nF (r_scale (r_cl (Tm j - Tm (m_anc P (Hh j - (Hh j - 7)) j))) 4800 (r_open v α)))))] := hD
          refine W.eq (g2 := F0 m 111 ls []) rfl ?_
          have e_w108 : nF (r_scale (r_cl (Tm j - Tm (m_anc P (Hh j - (Hh j - 7)) j))) 4800 (r_open v α)) = nF (r_mustA v (Tm j - Tm (m_anc P (Hh j - (Hh j - 7)) j)) α) := rfl
          rw [e_w108] at hP hD
          refine lv_ldc2 (v := 545259519) hx hb hown (hts (.constantLong RM 48 545259519) (by decide +kernel)) dM_must_111 ?_
          refine tp_l (y := lN 545259519) (by decide) ?_
          refine lv_aload_n hx hb dM_must_114 rfl (lv_at hl 1 rfl) ?_
          refine va_get (D := D) (ci := 3) (v := .ref ab) (C := RM) (T := TM) (N := 12) hx hb hts iM_must_M hown hK hP 5 rfl rfl 9 (by decide) (hts (.fieldLink RM 33 "TreeDeskModel" "b" "[I") (by decide +kernel)) (fun _ h9 => h9) rfl dM_must_115 ?_
          refine rw_k (wc := [(ab, .inl (cI, 40, .inl (nF β)))]) (wr := [(aP, .inl (cI, 300, .inl (pF P))), (aH, .inl (cI, 300, .inl (nF Hh))), (aT, .inl (cJ, 300, .inr (.inl Tm))), (aB, .inl (cJ, 300, .inr (.inl Bt))), (o, .inr (3, [.int (nI mo), .int (nI n), .ref aP, .ref aH, .ref aT, .ref aB, .ref aZ, .ref aS, .ref aa, .ref ab, .ref ac, .ref aR])), (aa, .inl (cI, 40, .inl (nF (r_mustA v (Tm j - Tm (m_anc P (Hh j - (Hh j - 7)) j)) α))))]) (va_runS (As := [.long (lN 545259519), .ref ab]) (rest := []) ⟨hx, hb, hml, hown, hts⟩ (k_open l D cI cJ cZ ab β 545259519 (by omega) H.size) (va_cwS 2 hts gM_must_M_open_57 rfl rfl rfl (by decide +kernel) ⟨Nat.le_of_ble_eq_true rfl, Nat.le_of_ble_eq_true rfl⟩) (rw_preS (hP.sub [4] rfl) hK (hD.sub [4] (by decide) rfl)) rfl rfl hl.1 rfl (lv_room (Nat.le_of_ble_eq_true rfl)) dM_must_118 ⟨Nat.le_of_ble_eq_true rfl, Nat.le_of_ble_eq_true rfl⟩) hP hD hS hA [4] [0, 1, 2, 3, 5, 6] rfl rfl (by decide) (by decide) (fun v9 w9 H locs hp9 hP hD hS => ?_)
          obtain ⟨rfl, rfl⟩ := hp9
          have hP : va_P D vwCl [(aP, .inl (cI, 300, .inl (pF P))), (aH, .inl (cI, 300, .inl (nF Hh))), (aT, .inl (cJ, 300, .inr (.inl Tm))), (aB, .inl (cJ, 300, .inr (.inl Bt))), (o, .inr (3, [.int (nI mo), .int (nI n), .ref aP, .ref aH, .ref aT, .ref aB, .ref aZ, .ref aS, .ref aa, .ref ab, .ref ac, .ref aR])), (aa, .inl (cI, 40, .inl (nF (r_mustA v (Tm j - Tm (m_anc P (Hh j - (Hh j - 7)) j)) α)))), (ab, .inl (cI, 40, .inl (nF (r_open 545259519 β))))] H := hP
          have hD : va_D A [(aP, .inl (cI, 300, .inl (pF P))), (aH, .inl (cI, 300, .inl (nF Hh))), (aT, .inl (cJ, 300, .inr (.inl Tm))), (aB, .inl (cJ, 300, .inr (.inl Bt))), (o, .inr (3, [.int (nI mo), .int (nI n), .ref aP, .ref aH, .ref aT, .ref aB, .ref aZ, .ref aS, .ref aa, .ref ab, .ref ac, .ref aR])), (aa, .inl (cI, 40, .inl (nF (r_mustA v (Tm j - Tm (m_anc P (Hh j - (Hh j - 7)) j)) α)))), (ab, .inl (cI, 40, .inl (nF (r_open 545259519 β))))] := hD
          refine W.eq (g2 := F0 m 121 ls []) rfl ?_
          refine lv_aload_n hx hb dM_must_121 rfl (lv_at hl 1 rfl) ?_
          refine va_get (D := D) (ci := 3) (v := .ref aa) (C := RM) (T := TM) (N := 12) hx hb hts iM_must_M hown hK hP 4 rfl rfl 8 (by decide) (hts (.fieldLink RM 30 "TreeDeskModel" "a" "[I") (by decide +kernel)) (fun _ h9 => h9) rfl dM_must_122 ?_
          refine lv_aload_n hx hb dM_must_125 rfl (lv_at hl 1 rfl) ?_
          refine va_get (D := D) (ci := 3) (v := .ref ab) (C := RM) (T := TM) (N := 12) hx hb hts iM_must_M hown hK hP 4 rfl rfl 9 (by decide) (hts (.fieldLink RM 33 "TreeDeskModel" "b" "[I") (by decide +kernel)) (fun _ h9 => h9) rfl dM_must_126 ?_
          refine ro_ki (va_runS (As := [.ref aa, .ref ab]) (rest := []) ⟨hx, hb, hml, hown, hts⟩ (k_compareRows l D cI cJ cZ aa ab (r_mustA v (Tm j - Tm (m_anc P (Hh j - (Hh j - 7)) j)) α) (r_open 545259519 β) (r_mustA_by hα8) (r_open_by hβ8)) (va_cwS 2 hts gM_must_M_compareRows_72 rfl rfl rfl (by decide +kernel) ⟨Nat.le_of_ble_eq_true rfl, Nat.le_of_ble_eq_true rfl⟩) (ro_preS (hP.sub [5, 6] rfl) hK) rfl rfl hl.1 rfl (lv_room (Nat.le_of_ble_eq_true rfl)) dM_must_129 ⟨Nat.le_of_ble_eq_true rfl, Nat.le_of_ble_eq_true rfl⟩) ?_
          refine lv_if_le (tgt := 145) hx hb dM_must_132 (by decide) (fun c_132 => ?_) (fun c_132 => ?_)
          · skip
            refine lv_aload_n hx hb dM_must_145 rfl (lv_at hl 1 rfl) ?_
            refine va_get (D := D) (ci := 3) (v := .ref aa) (C := RM) (T := TM) (N := 12) hx hb hts iM_must_M hown hK hP 4 rfl rfl 8 (by decide) (hts (.fieldLink RM 30 "TreeDeskModel" "a" "[I") (by decide +kernel)) (fun _ h9 => h9) rfl dM_must_146 ?_
            refine ro_kl (va_runS (As := [.ref aa]) (rest := []) ⟨hx, hb, hml, hown, hts⟩ (k_compactOf l D cI cJ cZ aa (r_mustA v (Tm j - Tm (m_anc P (Hh j - (Hh j - 7)) j)) α) (r_mustA_by hα8)) (va_cwS 1 hts gM_must_M_compactOf_98 rfl rfl rfl (by decide +kernel) ⟨Nat.le_of_ble_eq_true rfl, Nat.le_of_ble_eq_true rfl⟩) (ro_preS (hP.sub [5] rfl) hK) rfl rfl hl.1 rfl (lv_room (Nat.le_of_ble_eq_true rfl)) dM_must_149 ⟨Nat.le_of_ble_eq_true rfl, Nat.le_of_ble_eq_true rfl⟩) ?_
            exact rw_lret (w := [(o, .inr (3, [.int (nI mo), .int (nI n), .ref aP, .ref aH, .ref aT, .ref aB, .ref aZ, .ref aS, .ref aa, .ref ab, .ref ac, .ref aR])), (aP, .inl (cI, 300, .inl (pF P))), (aH, .inl (cI, 300, .inl (nF Hh))), (aT, .inl (cJ, 300, .inr (.inl Tm))), (aB, .inl (cJ, 300, .inr (.inl Bt))), (aa, .inl (cI, 40, .inl (nF (r_mustA v (Tm j - Tm (m_anc P (Hh j - (Hh j - 7)) j)) α)))), (ab, .inl (cI, 40, .inl (nF (r_open 545259519 β))))]) hQ hx hb hr hlocks dM_must_152 (hP.sub [4, 0, 1, 2, 3, 5, 6] rfl) (hD.sub [4, 0, 1, 2, 3, 5, 6] (by decide) rfl) hS ⟨congrArg (fun z => some (Value.long (lN z))) (by unfold r_must; rw [if_pos c_132]), rfl⟩
          · skip
            refine lv_aload_n hx hb dM_must_135 rfl (lv_at hl 1 rfl) ?_
            refine va_get (D := D) (ci := 3) (v := .ref ab) (C := RM) (T := TM) (N := 12) hx hb hts iM_must_M hown hK hP 4 rfl rfl 9 (by decide) (hts (.fieldLink RM 33 "TreeDeskModel" "b" "[I") (by decide +kernel)) (fun _ h9 => h9) rfl dM_must_136 ?_
            refine ro_kl (va_runS (As := [.ref ab]) (rest := []) ⟨hx, hb, hml, hown, hts⟩ (k_compactOf l D cI cJ cZ ab (r_open 545259519 β) (r_open_by hβ8)) (va_cwS 1 hts gM_must_M_compactOf_98 rfl rfl rfl (by decide +kernel) ⟨Nat.le_of_ble_eq_true rfl, Nat.le_of_ble_eq_true rfl⟩) (ro_preS (hP.sub [6] rfl) hK) rfl rfl hl.1 rfl (lv_room (Nat.le_of_ble_eq_true rfl)) dM_must_139 ⟨Nat.le_of_ble_eq_true rfl, Nat.le_of_ble_eq_true rfl⟩) ?_
            refine lv_goto (tgt := 152) hx hb dM_must_142 (by decide) ?_
            exact rw_lret (w := [(o, .inr (3, [.int (nI mo), .int (nI n), .ref aP, .ref aH, .ref aT, .ref aB, .ref aZ, .ref aS, .ref aa, .ref ab, .ref ac, .ref aR])), (aP, .inl (cI, 300, .inl (pF P))), (aH, .inl (cI, 300, .inl (nF Hh))), (aT, .inl (cJ, 300, .inr (.inl Tm))), (aB, .inl (cJ, 300, .inr (.inl Bt))), (aa, .inl (cI, 40, .inl (nF (r_mustA v (Tm j - Tm (m_anc P (Hh j - (Hh j - 7)) j)) α)))), (ab, .inl (cI, 40, .inl (nF (r_open 545259519 β))))]) hQ hx hb hr hlocks dM_must_152 (hP.sub [4, 0, 1, 2, 3, 5, 6] rfl) (hD.sub [4, 0, 1, 2, 3, 5, 6] (by decide) rfl) hS ⟨congrArg (fun z => some (Value.long (lN z))) (by unfold r_must; rw [if_neg c_132]), rfl⟩
      · skip
        refine lv_ldc2 (v := 1200) hx hb hown (hts (.constantLong RM 112 1200) (by decide +kernel)) dM_must_68 ?_
        refine tp_l (y := lN 1200) (by decide) ?_
        refine tp_l (y := lN (r_cl (Tm j - Tm (m_anc P (Hh j - (Hh j - 7)) j)))) (r_cl_1 c_65) ?_
        refine lv_goto (tgt := 89) hx hb dM_must_71 (by decide) ?_
        refine lv_lstore_n (lv' := [(2, .long (lN (r_cl (Tm j - Tm (m_anc P (Hh j - (Hh j - 7)) j))))), (0, .ref o), (1, .int (nI j))]) hx hb dM_must_89 rfl hl (by decide) rfl (fun ls hl => ?_)
        refine lv_aload_n hx hb dM_must_90 rfl (lv_at hl 1 rfl) ?_
        refine va_get (D := D) (ci := 3) (v := .ref aB) (C := RM) (T := TM) (N := 12) hx hb hts iM_must_M hown hK hP 0 rfl rfl 5 (by decide) (hts (.fieldLink RM 20 "TreeDeskModel" "bits" "[J") (by decide +kernel)) (fun _ h9 => h9) rfl dM_must_91 ?_
        refine lv_iload_n hx hb dM_must_94 rfl (lv_at hl 2 rfl) ?_
        refine ar_lld (j := j) hx hb hK hP 4 1 rfl rfl dM_must_95 (by omega) (by omega) ?_
        refine tp_l (y := lN v) hbv ?_
        refine lv_aload_n hx hb dM_must_96 rfl (lv_at hl 1 rfl) ?_
        refine va_get (D := D) (ci := 3) (v := .ref aa) (C := RM) (T := TM) (N := 12) hx hb hts iM_must_M hown hK hP 0 rfl rfl 8 (by decide) (hts (.fieldLink RM 30 "TreeDeskModel" "a" "[I") (by decide +kernel)) (fun _ h9 => h9) rfl dM_must_97 ?_
        refine rw_k (wc := [(aa, .inl (cI, 40, .inl (nF α)))]) (wr := [(o, .inr (3, [.int (nI mo), .int (nI n), .ref aP, .ref aH, .ref aT, .ref aB, .ref aZ, .ref aS, .ref aa, .ref ab, .ref ac, .ref aR])), (aP, .inl (cI, 300, .inl (pF P))), (aH, .inl (cI, 300, .inl (nF Hh))), (aT, .inl (cJ, 300, .inr (.inl Tm))), (aB, .inl (cJ, 300, .inr (.inl Bt))), (ab, .inl (cI, 40, .inl (nF β)))]) (va_runS (As := [.long (lN v), .ref aa]) (rest := []) ⟨hx, hb, hml, hown, hts⟩ (k_open l D cI cJ cZ aa α v hv H.size) (va_cwS 2 hts gM_must_M_open_57 rfl rfl rfl (by decide +kernel) ⟨Nat.le_of_ble_eq_true rfl, Nat.le_of_ble_eq_true rfl⟩) (rw_preS (hP.sub [5] rfl) hK (hD.sub [5] (by decide) rfl)) rfl rfl hl.1 rfl (lv_room (Nat.le_of_ble_eq_true rfl)) dM_must_100 ⟨Nat.le_of_ble_eq_true rfl, Nat.le_of_ble_eq_true rfl⟩) hP hD hS hA [5] [0, 1, 2, 3, 4, 6] rfl rfl (by decide) (by decide) (fun v9 w9 H locs hp9 hP hD hS => ?_)
        obtain ⟨rfl, rfl⟩ := hp9
        have hP : va_P D vwCl [(o, .inr (3, [.int (nI mo), .int (nI n), .ref aP, .ref aH, .ref aT, .ref aB, .ref aZ, .ref aS, .ref aa, .ref ab, .ref ac, .ref aR])), (aP, .inl (cI, 300, .inl (pF P))), (aH, .inl (cI, 300, .inl (nF Hh))), (aT, .inl (cJ, 300, .inr (.inl Tm))), (aB, .inl (cJ, 300, .inr (.inl Bt))), (ab, .inl (cI, 40, .inl (nF β))), (aa, .inl (cI, 40, .inl (nF (r_open v α))))] H := hP
        have hD : va_D A [(o, .inr (3, [.int (nI mo), .int (nI n), .ref aP, .ref aH, .ref aT, .ref aB, .ref aZ, .ref aS, .ref aa, .ref ab, .ref ac, .ref aR])), (aP, .inl (cI, 300, .inl (pF P))), (aH, .inl (cI, 300, .inl (nF Hh))), (aT, .inl (cJ, 300, .inr (.inl Tm))), (aB, .inl (cJ, 300, .inr (.inl Bt))), (ab, .inl (cI, 40, .inl (nF β))), (aa, .inl (cI, 40, .inl (nF (r_open v α))))] := hD
        refine W.eq (g2 := F0 m 103 ls []) rfl ?_
        refine lv_aload_n hx hb dM_must_103 rfl (lv_at hl 1 rfl) ?_
        refine lv_lload_n hx hb dM_must_104 rfl (lv_at hl 0 rfl) ?_
        refine lv_ldc2 (v := 4800) hx hb hown (hts (.constantLong RM 116 4800) (by decide +kernel)) dM_must_105 ?_
        refine tp_l (y := lN 4800) (by decide) ?_
        refine rw_k (wc := [(o, .inr (3, [.int (nI mo), .int (nI n), .ref aP, .ref aH, .ref aT, .ref aB, .ref aZ, .ref aS, .ref aa, .ref ab, .ref ac, .ref aR])), (aa, .inl (cI, 40, .inl (nF (r_open v α))))]) (wr := [(aP, .inl (cI, 300, .inl (pF P))), (aH, .inl (cI, 300, .inl (nF Hh))), (aT, .inl (cJ, 300, .inr (.inl Tm))), (aB, .inl (cJ, 300, .inr (.inl Bt))), (ab, .inl (cI, 40, .inl (nF β)))]) (va_runV (As := [.long (lN (r_cl (Tm j - Tm (m_anc P (Hh j - (Hh j - 7)) j)))), .long (lN 4800)]) (rest := []) ⟨hx, hb, hml, hown, hts⟩ (k_scale l D cI cJ cZ o mo n aP aH aT aB aZ aS aa ab ac aR (r_open v α) (r_cl (Tm j - Tm (m_anc P (Hh j - (Hh j - 7)) j))) 4800 (r_open_by hα8) (r_cl_le _) (by omega) (by omega) H.size) (cwV 2 hts gM_must_M_scale_118 rfl rfl rfl (by decide +kernel) ⟨Nat.le_of_ble_eq_true rfl, Nat.le_of_ble_eq_true rfl⟩) (rw_preV (hP.sub [0, 6] rfl) hK (hD.sub [0, 6] (by decide) rfl) (va_recv hK hP (ci := 3) (q0 := 0) rfl rfl)) rfl rfl hl.1 rfl (lv_room (Nat.le_of_ble_eq_true rfl)) dM_must_108 ⟨Nat.le_of_ble_eq_true rfl, Nat.le_of_ble_eq_true rfl⟩) hP hD hS hA [0, 6] [1, 2, 3, 4, 5] rfl rfl (by decide) (by decide) (fun v9 w9 H locs hp9 hP hD hS => ?_)
        obtain ⟨rfl, rfl⟩ := hp9
        have hP : va_P D vwCl [(aP, .inl (cI, 300, .inl (pF P))), (aH, .inl (cI, 300, .inl (nF Hh))), (aT, .inl (cJ, 300, .inr (.inl Tm))), (aB, .inl (cJ, 300, .inr (.inl Bt))), (ab, .inl (cI, 40, .inl (nF β))), (o, .inr (3, [.int (nI mo), .int (nI n), .ref aP, .ref aH, .ref aT, .ref aB, .ref aZ, .ref aS, .ref aa, .ref ab, .ref ac, .ref aR])), (aa, .inl (cI, 40, .inl (nF (r_scale (r_cl (Tm j - Tm (m_anc P (Hh j - (Hh j - 7)) j))) 4800 (r_open v α)))))] H := hP
        have hD : va_D A [(aP, .inl (cI, 300, .inl (pF P))), (aH, .inl (cI, 300, .inl (nF Hh))), (aT, .inl (cJ, 300, .inr (.inl Tm))), (aB, .inl (cJ, 300, .inr (.inl Bt))), (ab, .inl (cI, 40, .inl (nF β))), (o, .inr (3, [.int (nI mo), .int (nI n), .ref aP, .ref aH, .ref aT, .ref aB, .ref aZ, .ref aS, .ref aa, .ref ab, .ref ac, .ref aR])), (aa, .inl (cI, 40, .inl (nF (r_scale (r_cl (Tm j - Tm (m_anc P (Hh j - (Hh j - 7)) j))) 4800 (r_open v α)))))] := hD
        refine W.eq (g2 := F0 m 111 ls []) rfl ?_
        have e_w108 : nF (r_scale (r_cl (Tm j - Tm (m_anc P (Hh j - (Hh j - 7)) j))) 4800 (r_open v α)) = nF (r_mustA v (Tm j - Tm (m_anc P (Hh j - (Hh j - 7)) j)) α) := rfl
        rw [e_w108] at hP hD
        refine lv_ldc2 (v := 545259519) hx hb hown (hts (.constantLong RM 48 545259519) (by decide +kernel)) dM_must_111 ?_
        refine tp_l (y := lN 545259519) (by decide) ?_
        refine lv_aload_n hx hb dM_must_114 rfl (lv_at hl 1 rfl) ?_
        refine va_get (D := D) (ci := 3) (v := .ref ab) (C := RM) (T := TM) (N := 12) hx hb hts iM_must_M hown hK hP 5 rfl rfl 9 (by decide) (hts (.fieldLink RM 33 "TreeDeskModel" "b" "[I") (by decide +kernel)) (fun _ h9 => h9) rfl dM_must_115 ?_
        refine rw_k (wc := [(ab, .inl (cI, 40, .inl (nF β)))]) (wr := [(aP, .inl (cI, 300, .inl (pF P))), (aH, .inl (cI, 300, .inl (nF Hh))), (aT, .inl (cJ, 300, .inr (.inl Tm))), (aB, .inl (cJ, 300, .inr (.inl Bt))), (o, .inr (3, [.int (nI mo), .int (nI n), .ref aP, .ref aH, .ref aT, .ref aB, .ref aZ, .ref aS, .ref aa, .ref ab, .ref ac, .ref aR])), (aa, .inl (cI, 40, .inl (nF (r_mustA v (Tm j - Tm (m_anc P (Hh j - (Hh j - 7)) j)) α))))]) (va_runS (As := [.long (lN 545259519), .ref ab]) (rest := []) ⟨hx, hb, hml, hown, hts⟩ (k_open l D cI cJ cZ ab β 545259519 (by omega) H.size) (va_cwS 2 hts gM_must_M_open_57 rfl rfl rfl (by decide +kernel) ⟨Nat.le_of_ble_eq_true rfl, Nat.le_of_ble_eq_true rfl⟩) (rw_preS (hP.sub [4] rfl) hK (hD.sub [4] (by decide) rfl)) rfl rfl hl.1 rfl (lv_room (Nat.le_of_ble_eq_true rfl)) dM_must_118 ⟨Nat.le_of_ble_eq_true rfl, Nat.le_of_ble_eq_true rfl⟩) hP hD hS hA [4] [0, 1, 2, 3, 5, 6] rfl rfl (by decide) (by decide) (fun v9 w9 H locs hp9 hP hD hS => ?_)
        obtain ⟨rfl, rfl⟩ := hp9
        have hP : va_P D vwCl [(aP, .inl (cI, 300, .inl (pF P))), (aH, .inl (cI, 300, .inl (nF Hh))), (aT, .inl (cJ, 300, .inr (.inl Tm))), (aB, .inl (cJ, 300, .inr (.inl Bt))), (o, .inr (3, [.int (nI mo), .int (nI n), .ref aP, .ref aH, .ref aT, .ref aB, .ref aZ, .ref aS, .ref aa, .ref ab, .ref ac, .ref aR])), (aa, .inl (cI, 40, .inl (nF (r_mustA v (Tm j - Tm (m_anc P (Hh j - (Hh j - 7)) j)) α)))), (ab, .inl (cI, 40, .inl (nF (r_open 545259519 β))))] H := hP
        have hD : va_D A [(aP, .inl (cI, 300, .inl (pF P))), (aH, .inl (cI, 300, .inl (nF Hh))), (aT, .inl (cJ, 300, .inr (.inl Tm))), (aB, .inl (cJ, 300, .inr (.inl Bt))), (o, .inr (3, [.int (nI mo), .int (nI n), .ref aP, .ref aH, .ref aT, .ref aB, .ref aZ, .ref aS, .ref aa, .ref ab, .ref ac, .ref aR])), (aa, .inl (cI, 40, .inl (nF (r_mustA v (Tm j - Tm (m_anc P (Hh j - (Hh j - 7)) j)) α)))), (ab, .inl (cI, 40, .inl (nF (r_open 545259519 β))))] := hD
        refine W.eq (g2 := F0 m 121 ls []) rfl ?_
        refine lv_aload_n hx hb dM_must_121 rfl (lv_at hl 1 rfl) ?_
        refine va_get (D := D) (ci := 3) (v := .ref aa) (C := RM) (T := TM) (N := 12) hx hb hts iM_must_M hown hK hP 4 rfl rfl 8 (by decide) (hts (.fieldLink RM 30 "TreeDeskModel" "a" "[I") (by decide +kernel)) (fun _ h9 => h9) rfl dM_must_122 ?_
        refine lv_aload_n hx hb dM_must_125 rfl (lv_at hl 1 rfl) ?_
        refine va_get (D := D) (ci := 3) (v := .ref ab) (C := RM) (T := TM) (N := 12) hx hb hts iM_must_M hown hK hP 4 rfl rfl 9 (by decide) (hts (.fieldLink RM 33 "TreeDeskModel" "b" "[I") (by decide +kernel)) (fun _ h9 => h9) rfl dM_must_126 ?_
        refine ro_ki (va_runS (As := [.ref aa, .ref ab]) (rest := []) ⟨hx, hb, hml, hown, hts⟩ (k_compareRows l D cI cJ cZ aa ab (r_mustA v (Tm j - Tm (m_anc P (Hh j - (Hh j - 7)) j)) α) (r_open 545259519 β) (r_mustA_by hα8) (r_open_by hβ8)) (va_cwS 2 hts gM_must_M_compareRows_72 rfl rfl rfl (by decide +kernel) ⟨Nat.le_of_ble_eq_true rfl, Nat.le_of_ble_eq_true rfl⟩) (ro_preS (hP.sub [5, 6] rfl) hK) rfl rfl hl.1 rfl (lv_room (Nat.le_of_ble_eq_true rfl)) dM_must_129 ⟨Nat.le_of_ble_eq_true rfl, Nat.le_of_ble_eq_true rfl⟩) ?_
        refine lv_if_le (tgt := 145) hx hb dM_must_132 (by decide) (fun c_132 => ?_) (fun c_132 => ?_)
        · skip
          refine lv_aload_n hx hb dM_must_145 rfl (lv_at hl 1 rfl) ?_
          refine va_get (D := D) (ci := 3) (v := .ref aa) (C := RM) (T := TM) (N := 12) hx hb hts iM_must_M hown hK hP 4 rfl rfl 8 (by decide) (hts (.fieldLink RM 30 "TreeDeskModel" "a" "[I") (by decide +kernel)) (fun _ h9 => h9) rfl dM_must_146 ?_
          refine ro_kl (va_runS (As := [.ref aa]) (rest := []) ⟨hx, hb, hml, hown, hts⟩ (k_compactOf l D cI cJ cZ aa (r_mustA v (Tm j - Tm (m_anc P (Hh j - (Hh j - 7)) j)) α) (r_mustA_by hα8)) (va_cwS 1 hts gM_must_M_compactOf_98 rfl rfl rfl (by decide +kernel) ⟨Nat.le_of_ble_eq_true rfl, Nat.le_of_ble_eq_true rfl⟩) (ro_preS (hP.sub [5] rfl) hK) rfl rfl hl.1 rfl (lv_room (Nat.le_of_ble_eq_true rfl)) dM_must_149 ⟨Nat.le_of_ble_eq_true rfl, Nat.le_of_ble_eq_true rfl⟩) ?_
          exact rw_lret (w := [(o, .inr (3, [.int (nI mo), .int (nI n), .ref aP, .ref aH, .ref aT, .ref aB, .ref aZ, .ref aS, .ref aa, .ref ab, .ref ac, .ref aR])), (aP, .inl (cI, 300, .inl (pF P))), (aH, .inl (cI, 300, .inl (nF Hh))), (aT, .inl (cJ, 300, .inr (.inl Tm))), (aB, .inl (cJ, 300, .inr (.inl Bt))), (aa, .inl (cI, 40, .inl (nF (r_mustA v (Tm j - Tm (m_anc P (Hh j - (Hh j - 7)) j)) α)))), (ab, .inl (cI, 40, .inl (nF (r_open 545259519 β))))]) hQ hx hb hr hlocks dM_must_152 (hP.sub [4, 0, 1, 2, 3, 5, 6] rfl) (hD.sub [4, 0, 1, 2, 3, 5, 6] (by decide) rfl) hS ⟨congrArg (fun z => some (Value.long (lN z))) (by unfold r_must; rw [if_pos c_132]), rfl⟩
        · skip
          refine lv_aload_n hx hb dM_must_135 rfl (lv_at hl 1 rfl) ?_
          refine va_get (D := D) (ci := 3) (v := .ref ab) (C := RM) (T := TM) (N := 12) hx hb hts iM_must_M hown hK hP 4 rfl rfl 9 (by decide) (hts (.fieldLink RM 33 "TreeDeskModel" "b" "[I") (by decide +kernel)) (fun _ h9 => h9) rfl dM_must_136 ?_
          refine ro_kl (va_runS (As := [.ref ab]) (rest := []) ⟨hx, hb, hml, hown, hts⟩ (k_compactOf l D cI cJ cZ ab (r_open 545259519 β) (r_open_by hβ8)) (va_cwS 1 hts gM_must_M_compactOf_98 rfl rfl rfl (by decide +kernel) ⟨Nat.le_of_ble_eq_true rfl, Nat.le_of_ble_eq_true rfl⟩) (ro_preS (hP.sub [6] rfl) hK) rfl rfl hl.1 rfl (lv_room (Nat.le_of_ble_eq_true rfl)) dM_must_139 ⟨Nat.le_of_ble_eq_true rfl, Nat.le_of_ble_eq_true rfl⟩) ?_
          refine lv_goto (tgt := 152) hx hb dM_must_142 (by decide) ?_
          exact rw_lret (w := [(o, .inr (3, [.int (nI mo), .int (nI n), .ref aP, .ref aH, .ref aT, .ref aB, .ref aZ, .ref aS, .ref aa, .ref ab, .ref ac, .ref aR])), (aP, .inl (cI, 300, .inl (pF P))), (aH, .inl (cI, 300, .inl (nF Hh))), (aT, .inl (cJ, 300, .inr (.inl Tm))), (aB, .inl (cJ, 300, .inr (.inl Bt))), (aa, .inl (cI, 40, .inl (nF (r_mustA v (Tm j - Tm (m_anc P (Hh j - (Hh j - 7)) j)) α)))), (ab, .inl (cI, 40, .inl (nF (r_open 545259519 β))))]) hQ hx hb hr hlocks dM_must_152 (hP.sub [4, 0, 1, 2, 3, 5, 6] rfl) (hD.sub [4, 0, 1, 2, 3, 5, 6] (by decide) rfl) hS ⟨congrArg (fun z => some (Value.long (lN z))) (by unfold r_must; rw [if_neg c_132]), rfl⟩
    · skip
      rw [← nI_0] at c_23
      have c_23 : ¬ (((Hh j) + 1) % 8) = 0 := n_ne c_23
      omega
  · skip
    rw [← nI_0] at c_5
    have c_5 : 1 = 0 := n_eq c_5 (by omega) (by omega)
    omega

abbrev rm_k_median : Room := { frames := 1, cells := 0, slots := 0, locals := 21 }
set_option maxRecDepth 100000 in
set_option maxHeartbeats 4000000 in
theorem k_median (l : Launch) (D : va_G) (cI cJ cZ : ClassId) (o : Nat) (mo : Nat) (n : Nat) (aP : Nat) (aH : Nat) (aT : Nat) (aB : Nat) (aZ : Nat) (aS : Nat) (aa : Nat) (ab : Nat) (ac : Nat) (aR : Nat) (P : Nat → Nat) (Tm : Nat → Int64) (Rk : Nat → Int64) (j : Nat) (hn3 : n ≤ 300) (hj : j < n) (hpar : ∀ x : Nat, 0 < x → x < n → P x < x) : rw_C l yM_median wM_median rm_k_median D vwCl (gT cI cJ cZ) [.ref o, .int (nI j)] [(o, .inr (3, [.int (nI mo), .int (nI n), .ref aP, .ref aH, .ref aT, .ref aB, .ref aZ, .ref aS, .ref aa, .ref ab, .ref ac, .ref aR])), (aP, .inl (cI, 300, .inl (pF P))), (aT, .inl (cJ, 300, .inr (.inl Tm))), (aR, .inl (cJ, 11, .inr (.inl Rk)))] (fun v9 w9 => v9 = some (.long ((m_med P Tm 11 0 (j + 1) Rk).1 ((m_med P Tm 11 0 (j + 1) Rk).2 / 2))) ∧ w9 = [(o, .inr (3, [.int (nI mo), .int (nI n), .ref aP, .ref aH, .ref aT, .ref aB, .ref aZ, .ref aS, .ref aa, .ref ab, .ref ac, .ref aR])), (aP, .inl (cI, 300, .inl (pF P))), (aT, .inl (cJ, 300, .inr (.inl Tm))), (aR, .inl (cJ, 11, .inr (.inl ((m_med P Tm 11 0 (j + 1) Rk).1))))]) 0 0 := by
  refine rw_of (cc := cM_median) (maxL := 5) (ret := some .long) (by decide) rfl (Nat.le_of_ble_eq_true rfl) ?_
  intro p e s m args below meth c Q A ls hx hb hr hml hown hts hlocks hin hK hP hD hA hl hQ
  have hS : va_S A s.heap s.heap [] := va_S.rf
  have hl : lv_has ls 5 [(0, .ref o), (1, .int (nI j))] := hl
  have hown : s.vm.findClass RM = some m.cls := hown
  obtain ⟨H, hHe⟩ : ∃ H : Heap, H = s.heap := ⟨_, rfl⟩
  rw [← hHe] at hP
  have hS : va_S A s.heap H [] := by rw [hHe]; exact va_S.rf
  suffices h9 : W p l e rm_k_median s m args below meth c H [] 0 0 Q (F0 m 0 ls []) by rw [hHe] at h9; exact h9
  clear hHe
  refine lv_aload_n hx hb dM_median_0 rfl (lv_at hl 0 rfl) ?_
  refine lv_iload_n hx hb dM_median_1 rfl (lv_at hl 1 rfl) ?_
  refine ro_ki (va_runV (As := [.int (nI j)]) (rest := []) ⟨hx, hb, hml, hown, hts⟩ (k_isBlock_ok l D cI cJ cZ o mo n aP aH aT aB aZ aS aa ab ac aR j (by omega) (by omega)) (cwV 1 hts gM_median_M_isBlock_102 rfl rfl rfl (by decide +kernel) ⟨Nat.le_of_ble_eq_true rfl, Nat.le_of_ble_eq_true rfl⟩) (ro_preV (hP.sub [0] rfl) hK (va_recv hK hP (ci := 3) (q0 := 0) rfl rfl)) rfl rfl hl.1 rfl (lv_room (Nat.le_of_ble_eq_true rfl)) dM_median_2 ⟨Nat.le_of_ble_eq_true rfl, Nat.le_of_ble_eq_true rfl⟩) ?_
  refine lv_if_ne (tgt := 12) hx hb dM_median_5 (by decide) (fun c_5 => ?_) (fun c_5 => ?_)
  · skip
    rw [← nI_0] at c_5
    have c_5 : ¬ 1 = 0 := n_ne c_5
    refine lv_iconst (v := nI 0) hx hb dM_median_12 (by decide) ?_
    refine lv_istore_n (lv' := [(2, .int (nI 0)), (0, .ref o), (1, .int (nI j))]) hx hb dM_median_13 rfl hl (by decide) rfl (fun ls hl => ?_)
    refine lv_iload_n hx hb dM_median_14 rfl (lv_at hl 2 rfl) ?_
    refine lv_istore_n (lv' := [(3, .int (nI j)), (2, .int (nI 0)), (0, .ref o), (1, .int (nI j))]) hx hb dM_median_15 rfl hl (by decide) rfl (fun ls hl => ?_)
    have lp_16 : ∀ (n_16 : Nat) (d c9 a : Nat) (i : Int32) (g : Nat → Int64), (d < n_16) → (c9 + d = 11) → (a ≤ n) → (i = nI a + (-1)) → (m_med P Tm d c9 a g = m_med P Tm 11 0 (j + 1) Rk) → ∀ (H : Heap) (locs : List Loc), va_P D vwCl [(o, .inr (3, [.int (nI mo), .int (nI n), .ref aP, .ref aH, .ref aT, .ref aB, .ref aZ, .ref aS, .ref aa, .ref ab, .ref ac, .ref aR])), (aP, .inl (cI, 300, .inl (pF P))), (aT, .inl (cJ, 300, .inr (.inl Tm))), (aR, .inl (cJ, 11, .inr (.inl g)))] H → va_D A [(o, .inr (3, [.int (nI mo), .int (nI n), .ref aP, .ref aH, .ref aT, .ref aB, .ref aZ, .ref aS, .ref aa, .ref ab, .ref ac, .ref aR])), (aP, .inl (cI, 300, .inl (pF P))), (aT, .inl (cJ, 300, .inr (.inl Tm))), (aR, .inl (cJ, 11, .inr (.inl g)))] → va_S A s.heap H locs → ∀ (ls : Array Slot), lv_has ls 5 [(0, .ref o), (2, .int (nI c9)), (3, .int i)] → W p l e rm_k_median s m args below meth c H locs 0 0 Q (F0 m 16 ls []) := by
      intro n_16
      induction n_16 with
      | zero => intro d c9 a i g hn hd ha hi hg H locs hP hD hS ls hl; exact absurd hn (by omega)
      | succ n_16 ih_16 =>
        intro d c9 a i g hn hd ha hi hg H locs hP hD hS ls hl
        refine lv_iload_n hx hb dM_median_16 rfl (lv_at hl 2 rfl) ?_
        refine lv_if_lt (tgt := 101) hx hb dM_median_17 (by decide) (fun c_17 => ?_) (fun c_17 => ?_)
        · skip
          have hk0 : a = 0 := dn_0 hi c_17 (by omega)
          subst hk0
          have hz : m_med P Tm 11 0 (j + 1) Rk = (g, c9) := hg.symm.trans (m_med_0 _ _ _ _ _)
          refine lv_aload_n hx hb dM_median_101 rfl (lv_at hl 0 rfl) ?_
          refine va_get (D := D) (ci := 3) (v := .ref aR) (C := RM) (T := TM) (N := 12) hx hb hts iM_median_M hown hK hP 0 rfl rfl 11 (by decide) (hts (.fieldLink RM 39 "TreeDeskModel" "times" "[J") (by decide +kernel)) (fun _ h9 => h9) rfl dM_median_102 ?_
          refine lv_iload_n hx hb dM_median_105 rfl (lv_at hl 1 rfl) ?_
          refine lv_iconst (v := nI 2) hx hb dM_median_106 (by decide) ?_
          refine lv_idiv hx hb dM_median_107 (nI_ne0 (by omega) (by omega)) ?_
          refine tp_i (y := nI (c9 / 2)) (pk_div (by omega) (by omega) (by omega)) ?_
          refine ar_lld (j := c9 / 2) hx hb hK hP 3 1 rfl rfl dM_median_108 (by omega) (by omega) ?_
          exact rw_lret (w := [(o, .inr (3, [.int (nI mo), .int (nI n), .ref aP, .ref aH, .ref aT, .ref aB, .ref aZ, .ref aS, .ref aa, .ref ab, .ref ac, .ref aR])), (aP, .inl (cI, 300, .inl (pF P))), (aT, .inl (cJ, 300, .inr (.inl Tm))), (aR, .inl (cJ, 11, .inr (.inl g)))]) hQ hx hb hr hlocks dM_median_109 (hP.sub [0, 1, 2, 3] rfl) (hD.sub [0, 1, 2, 3] (by decide) rfl) hS ⟨by rw [hz], by rw [hz]⟩
        · skip
          obtain ⟨x, rfl, rfl⟩ := dn_s hi c_17
          refine lv_iload_n hx hb dM_median_20 rfl (lv_at hl 1 rfl) ?_
          refine lv_bipush (v := nI 11) hx hb dM_median_21 (by decide) ?_
          refine lv_icmp_ge (tgt := 101) hx hb dM_median_23 (by decide) (fun c_23 => ?_) (fun c_23 => ?_)
          · skip
            have c_23 : 11 ≤ c9 := n_le c_23 (by omega) (by omega)
            have hd0 : d = 0 := by omega
            subst hd0
            have hz : m_med P Tm 11 0 (j + 1) Rk = (g, c9) := hg.symm.trans rfl
            refine lv_aload_n hx hb dM_median_101 rfl (lv_at hl 0 rfl) ?_
            refine va_get (D := D) (ci := 3) (v := .ref aR) (C := RM) (T := TM) (N := 12) hx hb hts iM_median_M hown hK hP 0 rfl rfl 11 (by decide) (hts (.fieldLink RM 39 "TreeDeskModel" "times" "[J") (by decide +kernel)) (fun _ h9 => h9) rfl dM_median_102 ?_
            refine lv_iload_n hx hb dM_median_105 rfl (lv_at hl 1 rfl) ?_
            refine lv_iconst (v := nI 2) hx hb dM_median_106 (by decide) ?_
            refine lv_idiv hx hb dM_median_107 (nI_ne0 (by omega) (by omega)) ?_
            refine tp_i (y := nI (c9 / 2)) (pk_div (by omega) (by omega) (by omega)) ?_
            refine ar_lld (j := c9 / 2) hx hb hK hP 3 1 rfl rfl dM_median_108 (by omega) (by omega) ?_
            exact rw_lret (w := [(o, .inr (3, [.int (nI mo), .int (nI n), .ref aP, .ref aH, .ref aT, .ref aB, .ref aZ, .ref aS, .ref aa, .ref ab, .ref ac, .ref aR])), (aP, .inl (cI, 300, .inl (pF P))), (aT, .inl (cJ, 300, .inr (.inl Tm))), (aR, .inl (cJ, 11, .inr (.inl g)))]) hQ hx hb hr hlocks dM_median_109 (hP.sub [0, 1, 2, 3] rfl) (hD.sub [0, 1, 2, 3] (by decide) rfl) hS ⟨by rw [hz], by rw [hz]⟩
          · skip
            have c_23 : c9 < 11 := n_nle c_23 (by omega) (by omega)
            obtain ⟨d, rfl⟩ : ∃ d' : Nat, d = d' + 1 := ⟨d - 1, by omega⟩
            refine lv_iload_n hx hb dM_median_26 rfl (lv_at hl 1 rfl) ?_
            refine lv_istore (lv' := [(4, .int (nI c9)), (0, .ref o), (2, .int (nI c9)), (3, .int (nI x))]) hx hb dM_median_27 hl (by decide) rfl (fun ls hl => ?_)
            have lp_29 : ∀ (n_29 : Nat) (k : Nat) (g2 : Nat → Int64), (k < n_29) → (k < 11) → (m_rank (Tm x) k g2 = m_rank (Tm x) c9 g) → ∀ (H : Heap) (locs : List Loc), va_P D vwCl [(o, .inr (3, [.int (nI mo), .int (nI n), .ref aP, .ref aH, .ref aT, .ref aB, .ref aZ, .ref aS, .ref aa, .ref ab, .ref ac, .ref aR])), (aP, .inl (cI, 300, .inl (pF P))), (aT, .inl (cJ, 300, .inr (.inl Tm))), (aR, .inl (cJ, 11, .inr (.inl g2)))] H → va_D A [(o, .inr (3, [.int (nI mo), .int (nI n), .ref aP, .ref aH, .ref aT, .ref aB, .ref aZ, .ref aS, .ref aa, .ref ab, .ref ac, .ref aR])), (aP, .inl (cI, 300, .inl (pF P))), (aT, .inl (cJ, 300, .inr (.inl Tm))), (aR, .inl (cJ, 11, .inr (.inl g2)))] → va_S A s.heap H locs → ∀ (ls : Array Slot), lv_has ls 5 [(0, .ref o), (2, .int (nI c9)), (3, .int (nI x)), (4, .int (nI k))] → W p l e rm_k_median s m args below meth c H locs 0 0 Q (F0 m 29 ls []) := by
              intro n_29
              induction n_29 with
              | zero => intro k g2 hn2 hk hg2 H locs hP hD hS ls hl; exact absurd hn2 (by omega)
              | succ n_29 ih_29 =>
                intro k g2 hn2 hk hg2 H locs hP hD hS ls hl
                refine lv_iload hx hb dM_median_29 (lv_at hl 3 rfl) ?_
                refine lv_if_le (tgt := 75) hx hb dM_median_31 (by decide) (fun c_31 => ?_) (fun c_31 => ?_)
                · skip
                  rw [← nI_0] at c_31
                  have c_31 : k ≤ 0 := n_le c_31 (by omega) (by omega)
                  have hk0 : k = 0 := by omega
                  subst hk0
                  refine lv_aload_n hx hb dM_median_75 rfl (lv_at hl 0 rfl) ?_
                  refine va_get (D := D) (ci := 3) (v := .ref aR) (C := RM) (T := TM) (N := 12) hx hb hts iM_median_M hown hK hP 0 rfl rfl 11 (by decide) (hts (.fieldLink RM 39 "TreeDeskModel" "times" "[J") (by decide +kernel)) (fun _ h9 => h9) rfl dM_median_76 ?_
                  refine lv_iload hx hb dM_median_79 (lv_at hl 3 rfl) ?_
                  refine lv_aload_n hx hb dM_median_81 rfl (lv_at hl 0 rfl) ?_
                  refine va_get (D := D) (ci := 3) (v := .ref aT) (C := RM) (T := TM) (N := 12) hx hb hts iM_median_M hown hK hP 0 rfl rfl 4 (by decide) (hts (.fieldLink RM 16 "TreeDeskModel" "time" "[J") (by decide +kernel)) (fun _ h9 => h9) rfl dM_median_82 ?_
                  refine lv_iload_n hx hb dM_median_85 rfl (lv_at hl 2 rfl) ?_
                  refine ar_lld (j := x) hx hb hK hP 2 1 rfl rfl dM_median_86 (by omega) (by omega) ?_
                  refine ar_lst (j := 0) hx hb hK hP hD hS 3 1 rfl rfl dM_median_87 (by omega) (by omega) (fun H locs hP hD hS => ?_)
                  have hP : va_P D vwCl [(o, .inr (3, [.int (nI mo), .int (nI n), .ref aP, .ref aH, .ref aT, .ref aB, .ref aZ, .ref aS, .ref aa, .ref ab, .ref ac, .ref aR])), (aP, .inl (cI, 300, .inl (pF P))), (aT, .inl (cJ, 300, .inr (.inl Tm))), (aR, .inl (cJ, 11, .inr (.inl (vp_updL g2 0 (Tm x)))))] H := hP
                  have hD : va_D A [(o, .inr (3, [.int (nI mo), .int (nI n), .ref aP, .ref aH, .ref aT, .ref aB, .ref aZ, .ref aS, .ref aa, .ref ab, .ref ac, .ref aR])), (aP, .inl (cI, 300, .inl (pF P))), (aT, .inl (cJ, 300, .inr (.inl Tm))), (aR, .inl (cJ, 11, .inr (.inl (vp_updL g2 0 (Tm x)))))] := hD
                  have e_w87 : vp_updL g2 0 (Tm x) = m_rank (Tm x) c9 g := hg2
                  rw [e_w87] at hP hD
                  refine lv_iinc (v := nI (c9 + 1)) (lv' := [(2, .int (nI (c9 + 1))), (0, .ref o), (3, .int (nI x)), (4, .int (nI 0))]) hx hb dM_median_88 hl (k := 1) rfl (nI_add _ 1) (by decide) rfl (fun ls hl => ?_)
                  refine lv_aload_n hx hb dM_median_91 rfl (lv_at hl 1 rfl) ?_
                  refine va_get (D := D) (ci := 3) (v := .ref aP) (C := RM) (T := TM) (N := 12) hx hb hts iM_median_M hown hK hP 0 rfl rfl 2 (by decide) (hts (.fieldLink RM 7 "TreeDeskModel" "parent" "[I") (by decide +kernel)) (fun _ h9 => h9) rfl dM_median_92 ?_
                  refine lv_iload_n hx hb dM_median_95 rfl (lv_at hl 2 rfl) ?_
                  refine ar_ild (j := x) hx hb hK hP 1 0 rfl rfl dM_median_96 (by omega) (by omega) ?_
                  refine tp_i (y := nI (m_pn P x) + (-1)) (m_pn_I P x) ?_
                  refine lv_istore_n (lv' := [(3, .int (nI (m_pn P x) + (-1))), (2, .int (nI (c9 + 1))), (0, .ref o), (4, .int (nI 0))]) hx hb dM_median_97 rfl hl (by decide) rfl (fun ls hl => ?_)
                  refine lv_goto (tgt := 16) hx hb dM_median_98 (by decide) ?_
                  exact ih_16 d (c9 + 1) (m_pn P x) (nI (m_pn P x) + (-1)) (m_rank (Tm x) c9 g) (by omega) (by omega) (m_pn_le hpar (by omega)) rfl hg _ _ (hP.sub [0, 1, 2, 3] rfl) (hD.sub [0, 1, 2, 3] (by decide) rfl) hS ls (lv_sub hl [2, 1, 0] rfl)
                · skip
                  rw [← nI_0] at c_31
                  have c_31 : 0 < k := n_nle c_31 (by omega) (by omega)
                  obtain ⟨j2, rfl⟩ : ∃ j' : Nat, k = j' + 1 := ⟨k - 1, by omega⟩
                  refine lv_aload_n hx hb dM_median_34 rfl (lv_at hl 0 rfl) ?_
                  refine va_get (D := D) (ci := 3) (v := .ref aR) (C := RM) (T := TM) (N := 12) hx hb hts iM_median_M hown hK hP 0 rfl rfl 11 (by decide) (hts (.fieldLink RM 39 "TreeDeskModel" "times" "[J") (by decide +kernel)) (fun _ h9 => h9) rfl dM_median_35 ?_
                  refine lv_iload hx hb dM_median_38 (lv_at hl 3 rfl) ?_
                  refine lv_iconst (v := nI 1) hx hb dM_median_40 (by decide) ?_
                  refine lv_isub hx hb dM_median_41 ?_
                  refine tp_i (y := nI ((j2 + 1) - 1)) (pk_sub (by omega)) ?_
                  refine ar_lld (j := (j2 + 1) - 1) hx hb hK hP 3 1 rfl rfl dM_median_42 (by omega) (by omega) ?_
                  refine lv_aload_n hx hb dM_median_43 rfl (lv_at hl 0 rfl) ?_
                  refine va_get (D := D) (ci := 3) (v := .ref aT) (C := RM) (T := TM) (N := 12) hx hb hts iM_median_M hown hK hP 0 rfl rfl 4 (by decide) (hts (.fieldLink RM 16 "TreeDeskModel" "time" "[J") (by decide +kernel)) (fun _ h9 => h9) rfl dM_median_44 ?_
                  refine lv_iload_n hx hb dM_median_47 rfl (lv_at hl 2 rfl) ?_
                  refine ar_lld (j := x) hx hb hK hP 2 1 rfl rfl dM_median_48 (by omega) (by omega) ?_
                  refine lc_le (tgt := 75) hx hb dM_median_49 dM_median_50 (by decide) (fun c_50 => ?_) (fun c_50 => ?_)
                  · skip
                    have c_50 : g2 j2 ≤ Tm x := c_50
                    refine lv_aload_n hx hb dM_median_75 rfl (lv_at hl 0 rfl) ?_
                    refine va_get (D := D) (ci := 3) (v := .ref aR) (C := RM) (T := TM) (N := 12) hx hb hts iM_median_M hown hK hP 0 rfl rfl 11 (by decide) (hts (.fieldLink RM 39 "TreeDeskModel" "times" "[J") (by decide +kernel)) (fun _ h9 => h9) rfl dM_median_76 ?_
                    refine lv_iload hx hb dM_median_79 (lv_at hl 3 rfl) ?_
                    refine lv_aload_n hx hb dM_median_81 rfl (lv_at hl 0 rfl) ?_
                    refine va_get (D := D) (ci := 3) (v := .ref aT) (C := RM) (T := TM) (N := 12) hx hb hts iM_median_M hown hK hP 0 rfl rfl 4 (by decide) (hts (.fieldLink RM 16 "TreeDeskModel" "time" "[J") (by decide +kernel)) (fun _ h9 => h9) rfl dM_median_82 ?_
                    refine lv_iload_n hx hb dM_median_85 rfl (lv_at hl 2 rfl) ?_
                    refine ar_lld (j := x) hx hb hK hP 2 1 rfl rfl dM_median_86 (by omega) (by omega) ?_
                    refine ar_lst (j := (j2 + 1)) hx hb hK hP hD hS 3 1 rfl rfl dM_median_87 (by omega) (by omega) (fun H locs hP hD hS => ?_)
                    have hP : va_P D vwCl [(o, .inr (3, [.int (nI mo), .int (nI n), .ref aP, .ref aH, .ref aT, .ref aB, .ref aZ, .ref aS, .ref aa, .ref ab, .ref ac, .ref aR])), (aP, .inl (cI, 300, .inl (pF P))), (aT, .inl (cJ, 300, .inr (.inl Tm))), (aR, .inl (cJ, 11, .inr (.inl (vp_updL g2 (j2 + 1) (Tm x)))))] H := hP
                    have hD : va_D A [(o, .inr (3, [.int (nI mo), .int (nI n), .ref aP, .ref aH, .ref aT, .ref aB, .ref aZ, .ref aS, .ref aa, .ref ab, .ref ac, .ref aR])), (aP, .inl (cI, 300, .inl (pF P))), (aT, .inl (cJ, 300, .inr (.inl Tm))), (aR, .inl (cJ, 11, .inr (.inl (vp_updL g2 (j2 + 1) (Tm x)))))] := hD
                    have e_w87 : vp_updL g2 (j2 + 1) (Tm x) = m_rank (Tm x) c9 g := (by rw [← hg2, m_rank, if_pos c_50])
                    rw [e_w87] at hP hD
                    refine lv_iinc (v := nI (c9 + 1)) (lv' := [(2, .int (nI (c9 + 1))), (0, .ref o), (3, .int (nI x)), (4, .int (nI (j2 + 1)))]) hx hb dM_median_88 hl (k := 1) rfl (nI_add _ 1) (by decide) rfl (fun ls hl => ?_)
                    refine lv_aload_n hx hb dM_median_91 rfl (lv_at hl 1 rfl) ?_
                    refine va_get (D := D) (ci := 3) (v := .ref aP) (C := RM) (T := TM) (N := 12) hx hb hts iM_median_M hown hK hP 0 rfl rfl 2 (by decide) (hts (.fieldLink RM 7 "TreeDeskModel" "parent" "[I") (by decide +kernel)) (fun _ h9 => h9) rfl dM_median_92 ?_
                    refine lv_iload_n hx hb dM_median_95 rfl (lv_at hl 2 rfl) ?_
                    refine ar_ild (j := x) hx hb hK hP 1 0 rfl rfl dM_median_96 (by omega) (by omega) ?_
                    refine tp_i (y := nI (m_pn P x) + (-1)) (m_pn_I P x) ?_
                    refine lv_istore_n (lv' := [(3, .int (nI (m_pn P x) + (-1))), (2, .int (nI (c9 + 1))), (0, .ref o), (4, .int (nI (j2 + 1)))]) hx hb dM_median_97 rfl hl (by decide) rfl (fun ls hl => ?_)
                    refine lv_goto (tgt := 16) hx hb dM_median_98 (by decide) ?_
                    exact ih_16 d (c9 + 1) (m_pn P x) (nI (m_pn P x) + (-1)) (m_rank (Tm x) c9 g) (by omega) (by omega) (m_pn_le hpar (by omega)) rfl hg _ _ (hP.sub [0, 1, 2, 3] rfl) (hD.sub [0, 1, 2, 3] (by decide) rfl) hS ls (lv_sub hl [2, 1, 0] rfl)
                  · skip
                    have c_50 : ¬ g2 j2 ≤ Tm x := c_50
                    refine lv_aload_n hx hb dM_median_53 rfl (lv_at hl 0 rfl) ?_
                    refine va_get (D := D) (ci := 3) (v := .ref aR) (C := RM) (T := TM) (N := 12) hx hb hts iM_median_M hown hK hP 0 rfl rfl 11 (by decide) (hts (.fieldLink RM 39 "TreeDeskModel" "times" "[J") (by decide +kernel)) (fun _ h9 => h9) rfl dM_median_54 ?_
                    refine lv_iload hx hb dM_median_57 (lv_at hl 3 rfl) ?_
                    refine lv_aload_n hx hb dM_median_59 rfl (lv_at hl 0 rfl) ?_
                    refine va_get (D := D) (ci := 3) (v := .ref aR) (C := RM) (T := TM) (N := 12) hx hb hts iM_median_M hown hK hP 0 rfl rfl 11 (by decide) (hts (.fieldLink RM 39 "TreeDeskModel" "times" "[J") (by decide +kernel)) (fun _ h9 => h9) rfl dM_median_60 ?_
                    refine lv_iload hx hb dM_median_63 (lv_at hl 3 rfl) ?_
                    refine lv_iconst (v := nI 1) hx hb dM_median_65 (by decide) ?_
                    refine lv_isub hx hb dM_median_66 ?_
                    refine tp_i (y := nI ((j2 + 1) - 1)) (pk_sub (by omega)) ?_
                    refine ar_lld (j := (j2 + 1) - 1) hx hb hK hP 3 1 rfl rfl dM_median_67 (by omega) (by omega) ?_
                    refine ar_lst (j := (j2 + 1)) hx hb hK hP hD hS 3 1 rfl rfl dM_median_68 (by omega) (by omega) (fun H locs hP hD hS => ?_)
                    have hP : va_P D vwCl [(o, .inr (3, [.int (nI mo), .int (nI n), .ref aP, .ref aH, .ref aT, .ref aB, .ref aZ, .ref aS, .ref aa, .ref ab, .ref ac, .ref aR])), (aP, .inl (cI, 300, .inl (pF P))), (aT, .inl (cJ, 300, .inr (.inl Tm))), (aR, .inl (cJ, 11, .inr (.inl (vp_updL g2 (j2 + 1) (g2 ((j2 + 1) - 1))))))] H := hP
                    have hD : va_D A [(o, .inr (3, [.int (nI mo), .int (nI n), .ref aP, .ref aH, .ref aT, .ref aB, .ref aZ, .ref aS, .ref aa, .ref ab, .ref ac, .ref aR])), (aP, .inl (cI, 300, .inl (pF P))), (aT, .inl (cJ, 300, .inr (.inl Tm))), (aR, .inl (cJ, 11, .inr (.inl (vp_updL g2 (j2 + 1) (g2 ((j2 + 1) - 1))))))] := hD
                    refine lv_iinc (v := nI ((j2 + 1) - 1)) (lv' := [(4, .int (nI ((j2 + 1) - 1))), (0, .ref o), (2, .int (nI c9)), (3, .int (nI x))]) hx hb dM_median_69 hl (k := 3) rfl (sb_m1 (by omega)) (by decide) rfl (fun ls hl => ?_)
                    refine lv_goto (tgt := 29) hx hb dM_median_72 (by decide) ?_
                    exact ih_29 j2 (vp_updL g2 (j2 + 1) (g2 j2)) (by omega) (by omega) (by rw [← hg2, m_rank, if_neg c_50]) _ _ (hP.sub [0, 1, 2, 3] rfl) (hD.sub [0, 1, 2, 3] (by decide) rfl) hS ls (lv_sub hl [1, 2, 3, 0] rfl)
            exact lp_29 (c9 + 1) c9 g (by omega) (by omega) rfl _ _ (hP.sub [0, 1, 2, 3] rfl) (hD.sub [0, 1, 2, 3] (by decide) rfl) hS ls (lv_sub hl [1, 2, 3, 0] rfl)
    exact lp_16 12 11 0 (j + 1) (nI j) Rk (by omega) (by omega) (by omega) (pk_m1 j).symm rfl _ _ (hP.sub [0, 1, 2, 3] rfl) (hD.sub [0, 1, 2, 3] (by decide) rfl) hS ls (lv_sub hl [2, 1, 0] rfl)
  · skip
    rw [← nI_0] at c_5
    have c_5 : 1 = 0 := n_eq c_5 (by omega) (by omega)
    omega

abbrev rm_k_spoil_nob : Room := { frames := 2, cells := 0, slots := 0, locals := 44 }
set_option maxRecDepth 100000 in
set_option maxHeartbeats 4000000 in
theorem k_spoil_nob (l : Launch) (D : va_G) (cI cJ cZ : ClassId) (o : Nat) (mo : Nat) (n : Nat) (aP : Nat) (aH : Nat) (aT : Nat) (aB : Nat) (aZ : Nat) (aS : Nat) (aa : Nat) (ab : Nat) (ac : Nat) (aR : Nat) (x : Int32) (hx9 : ¬ (0 ≤ x ∧ x < nI n)) : ro_C l yM_spoil wM_spoil rm_k_spoil_nob D vwCl (gT cI cJ cZ) [.ref o, .int x] [(o, .inr (3, [.int (nI mo), .int (nI n), .ref aP, .ref aH, .ref aT, .ref aB, .ref aZ, .ref aS, .ref aa, .ref ab, .ref ac, .ref aR]))] (some (.int (nI 0))) := by
  refine ro_of (cc := cM_spoil) (maxL := 4) (ret := some .int) (by decide) rfl (Nat.le_of_ble_eq_true rfl) ?_
  intro p e s m args below meth c Q ls hx hb hr hml hown hts hlocks hK hP hl hQ
  have hl : lv_has ls 4 [(0, .ref o), (1, .int x)] := hl
  have hown : s.vm.findClass RM = some m.cls := hown
  refine lv_aload_n hx hb dM_spoil_0 rfl (lv_at hl 0 rfl) ?_
  refine lv_iload_n hx hb dM_spoil_1 rfl (lv_at hl 1 rfl) ?_
  refine ro_ki (va_runV (As := [.int x]) (rest := []) ⟨hx, hb, hml, hown, hts⟩ (k_isBlock_no l D cI cJ cZ o mo n aP aH aT aB aZ aS aa ab ac aR x hx9) (cwV 1 hts gM_spoil_M_isBlock_102 rfl rfl rfl (by decide +kernel) ⟨Nat.le_of_ble_eq_true rfl, Nat.le_of_ble_eq_true rfl⟩) (ro_preV (hP.sub [0] rfl) hK (va_recv hK hP (ci := 3) (q0 := 0) rfl rfl)) rfl rfl hl.1 rfl (lv_room (Nat.le_of_ble_eq_true rfl)) dM_spoil_2 ⟨Nat.le_of_ble_eq_true rfl, Nat.le_of_ble_eq_true rfl⟩) ?_
  refine lv_if_eq (tgt := 21) hx hb dM_spoil_5 (by decide) (fun c_5 => ?_) (fun c_5 => ?_)
  · skip
    rw [← nI_0] at c_5
    have c_5 : 0 = 0 := n_eq c_5 (by omega) (by omega)
    refine lv_iconst (v := nI 0) hx hb dM_spoil_21 (by decide) ?_
    exact ro_iret hQ hx hb hr hlocks dM_spoil_22 rfl
  · skip
    rw [← nI_0] at c_5
    have c_5 : ¬ 0 = 0 := n_ne c_5
    omega

abbrev rm_k_spoil_root : Room := { frames := 2, cells := 0, slots := 0, locals := 44 }
set_option maxRecDepth 100000 in
set_option maxHeartbeats 4000000 in
theorem k_spoil_root (l : Launch) (D : va_G) (cI cJ cZ : ClassId) (o : Nat) (mo : Nat) (n : Nat) (aP : Nat) (aH : Nat) (aT : Nat) (aB : Nat) (aZ : Nat) (aS : Nat) (aa : Nat) (ab : Nat) (ac : Nat) (aR : Nat) (hn9 : n ≤ 300) (hn1 : 0 < n) : ro_C l yM_spoil wM_spoil rm_k_spoil_root D vwCl (gT cI cJ cZ) [.ref o, .int (nI 0)] [(o, .inr (3, [.int (nI mo), .int (nI n), .ref aP, .ref aH, .ref aT, .ref aB, .ref aZ, .ref aS, .ref aa, .ref ab, .ref ac, .ref aR]))] (some (.int (nI 0))) := by
  refine ro_of (cc := cM_spoil) (maxL := 4) (ret := some .int) (by decide) rfl (Nat.le_of_ble_eq_true rfl) ?_
  intro p e s m args below meth c Q ls hx hb hr hml hown hts hlocks hK hP hl hQ
  have hl : lv_has ls 4 [(0, .ref o), (1, .int (nI 0))] := hl
  have hown : s.vm.findClass RM = some m.cls := hown
  refine lv_aload_n hx hb dM_spoil_0 rfl (lv_at hl 0 rfl) ?_
  refine lv_iload_n hx hb dM_spoil_1 rfl (lv_at hl 1 rfl) ?_
  refine ro_ki (va_runV (As := [.int (nI 0)]) (rest := []) ⟨hx, hb, hml, hown, hts⟩ (k_isBlock_ok l D cI cJ cZ o mo n aP aH aT aB aZ aS aa ab ac aR 0 (by omega) (by omega)) (cwV 1 hts gM_spoil_M_isBlock_102 rfl rfl rfl (by decide +kernel) ⟨Nat.le_of_ble_eq_true rfl, Nat.le_of_ble_eq_true rfl⟩) (ro_preV (hP.sub [0] rfl) hK (va_recv hK hP (ci := 3) (q0 := 0) rfl rfl)) rfl rfl hl.1 rfl (lv_room (Nat.le_of_ble_eq_true rfl)) dM_spoil_2 ⟨Nat.le_of_ble_eq_true rfl, Nat.le_of_ble_eq_true rfl⟩) ?_
  refine lv_if_eq (tgt := 21) hx hb dM_spoil_5 (by decide) (fun c_5 => ?_) (fun c_5 => ?_)
  · skip
    rw [← nI_0] at c_5
    have c_5 : 1 = 0 := n_eq c_5 (by omega) (by omega)
    omega
  · skip
    rw [← nI_0] at c_5
    have c_5 : ¬ 1 = 0 := n_ne c_5
    refine lv_iload_n hx hb dM_spoil_8 rfl (lv_at hl 1 rfl) ?_
    refine lv_if_eq (tgt := 21) hx hb dM_spoil_9 (by decide) (fun c_9 => ?_) (fun c_9 => ?_)
    · skip
      rw [← nI_0] at c_9
      have c_9 : 0 = 0 := n_eq c_9 (by omega) (by omega)
      refine lv_iconst (v := nI 0) hx hb dM_spoil_21 (by decide) ?_
      exact ro_iret hQ hx hb hr hlocks dM_spoil_22 rfl
    · skip
      rw [← nI_0] at c_9
      have c_9 : ¬ 0 = 0 := n_ne c_9
      omega

abbrev rm_k_spoil_bad : Room := { frames := 2, cells := 0, slots := 0, locals := 44 }
set_option maxRecDepth 100000 in
set_option maxHeartbeats 4000000 in
theorem k_spoil_bad (l : Launch) (D : va_G) (cI cJ cZ : ClassId) (o : Nat) (mo : Nat) (n : Nat) (aP : Nat) (aH : Nat) (aT : Nat) (aB : Nat) (aZ : Nat) (aS : Nat) (aa : Nat) (ab : Nat) (ac : Nat) (aR : Nat) (Zb : Nat → Nat) (j : Nat) (hn3 : n ≤ 300) (hj : j < n) (hz1 : ¬ Zb j = 0) (hz2 : Zb j < 2) : ro_C l yM_spoil wM_spoil rm_k_spoil_bad D vwCl (gT cI cJ cZ) [.ref o, .int (nI j)] [(o, .inr (3, [.int (nI mo), .int (nI n), .ref aP, .ref aH, .ref aT, .ref aB, .ref aZ, .ref aS, .ref aa, .ref ab, .ref ac, .ref aR])), (aZ, .inl (cZ, 300, .inl (nF Zb)))] (some (.int (nI 0))) := by
  refine ro_of (cc := cM_spoil) (maxL := 4) (ret := some .int) (by decide) rfl (Nat.le_of_ble_eq_true rfl) ?_
  intro p e s m args below meth c Q ls hx hb hr hml hown hts hlocks hK hP hl hQ
  have hl : lv_has ls 4 [(0, .ref o), (1, .int (nI j))] := hl
  have hown : s.vm.findClass RM = some m.cls := hown
  refine lv_aload_n hx hb dM_spoil_0 rfl (lv_at hl 0 rfl) ?_
  refine lv_iload_n hx hb dM_spoil_1 rfl (lv_at hl 1 rfl) ?_
  refine ro_ki (va_runV (As := [.int (nI j)]) (rest := []) ⟨hx, hb, hml, hown, hts⟩ (k_isBlock_ok l D cI cJ cZ o mo n aP aH aT aB aZ aS aa ab ac aR j (by omega) (by omega)) (cwV 1 hts gM_spoil_M_isBlock_102 rfl rfl rfl (by decide +kernel) ⟨Nat.le_of_ble_eq_true rfl, Nat.le_of_ble_eq_true rfl⟩) (ro_preV (hP.sub [0] rfl) hK (va_recv hK hP (ci := 3) (q0 := 0) rfl rfl)) rfl rfl hl.1 rfl (lv_room (Nat.le_of_ble_eq_true rfl)) dM_spoil_2 ⟨Nat.le_of_ble_eq_true rfl, Nat.le_of_ble_eq_true rfl⟩) ?_
  refine lv_if_eq (tgt := 21) hx hb dM_spoil_5 (by decide) (fun c_5 => ?_) (fun c_5 => ?_)
  · skip
    rw [← nI_0] at c_5
    have c_5 : 1 = 0 := n_eq c_5 (by omega) (by omega)
    omega
  · skip
    rw [← nI_0] at c_5
    have c_5 : ¬ 1 = 0 := n_ne c_5
    refine lv_iload_n hx hb dM_spoil_8 rfl (lv_at hl 1 rfl) ?_
    refine lv_if_eq (tgt := 21) hx hb dM_spoil_9 (by decide) (fun c_9 => ?_) (fun c_9 => ?_)
    · skip
      rw [← nI_0] at c_9
      have c_9 : j = 0 := n_eq c_9 (by omega) (by omega)
      refine lv_iconst (v := nI 0) hx hb dM_spoil_21 (by decide) ?_
      exact ro_iret hQ hx hb hr hlocks dM_spoil_22 rfl
    · skip
      rw [← nI_0] at c_9
      have c_9 : ¬ j = 0 := n_ne c_9
      refine lv_aload_n hx hb dM_spoil_12 rfl (lv_at hl 0 rfl) ?_
      refine va_get (D := D) (ci := 3) (v := .ref aZ) (C := RM) (T := TM) (N := 12) hx hb hts iM_spoil_M hown hK hP 0 rfl rfl 6 (by decide) (hts (.fieldLink RM 23 "TreeDeskModel" "bad" "[Z") (by decide +kernel)) (fun _ h9 => h9) rfl dM_spoil_13 ?_
      refine lv_iload_n hx hb dM_spoil_16 rfl (lv_at hl 1 rfl) ?_
      refine ar_zld (j := j) hx hb hK hP 1 2 rfl rfl dM_spoil_17 (by omega) (by omega) ?_
      refine tp_i (y := nI (Zb j)) rfl ?_
      refine lv_if_eq (tgt := 23) hx hb dM_spoil_18 (by decide) (fun c_18 => ?_) (fun c_18 => ?_)
      · skip
        rw [← nI_0] at c_18
        have c_18 : (Zb j) = 0 := n_eq c_18 (by omega) (by omega)
        omega
      · skip
        rw [← nI_0] at c_18
        have c_18 : ¬ (Zb j) = 0 := n_ne c_18
        refine lv_iconst (v := nI 0) hx hb dM_spoil_21 (by decide) ?_
        exact ro_iret hQ hx hb hr hlocks dM_spoil_22 rfl

abbrev rm_k_spoil : Room := { frames := 2, cells := 0, slots := 0, locals := 44 }
set_option maxRecDepth 100000 in
set_option maxHeartbeats 4000000 in
theorem k_spoil (l : Launch) (D : va_G) (cI cJ cZ : ClassId) (o : Nat) (mo : Nat) (n : Nat) (aP : Nat) (aH : Nat) (aT : Nat) (aB : Nat) (aZ : Nat) (aS : Nat) (aa : Nat) (ab : Nat) (ac : Nat) (aR : Nat) (P : Nat → Nat) (Hh : Nat → Nat) (Zb : Nat → Nat) (j : Nat) (hn3 : n ≤ 300) (hj : j < n) (hj0 : 0 < j) (hz0 : Zb j = 0) (hz9 : ∀ x : Nat, Zb x < 2) (hpar : ∀ x : Nat, 0 < x → x < n → P x < x) (hH0 : Hh 0 = 0) (hHs : ∀ x : Nat, 0 < x → x < n → Hh x = Hh (P x) + 1) (hHb : ∀ x : Nat, x < n → Hh x < 300) : rw_C l yM_spoil wM_spoil rm_k_spoil D vwCl (gT cI cJ cZ) [.ref o, .int (nI j)] [(o, .inr (3, [.int (nI mo), .int (nI n), .ref aP, .ref aH, .ref aT, .ref aB, .ref aZ, .ref aS, .ref aa, .ref ab, .ref ac, .ref aR])), (aP, .inl (cI, 300, .inl (pF P))), (aH, .inl (cI, 300, .inl (nF Hh))), (aZ, .inl (cZ, 300, .inl (nF Zb)))] (fun v9 w9 => v9 = some (.int (nI ((r_gone P Hh j n 0 0 Zb).2))) ∧ w9 = [(o, .inr (3, [.int (nI mo), .int (nI n), .ref aP, .ref aH, .ref aT, .ref aB, .ref aZ, .ref aS, .ref aa, .ref ab, .ref ac, .ref aR])), (aP, .inl (cI, 300, .inl (pF P))), (aH, .inl (cI, 300, .inl (nF Hh))), (aZ, .inl (cZ, 300, .inl (nF ((r_gone P Hh j n 0 0 Zb).1))))]) 0 0 := by
  refine rw_of (cc := cM_spoil) (maxL := 4) (ret := some .int) (by decide) rfl (Nat.le_of_ble_eq_true rfl) ?_
  intro p e s m args below meth c Q A ls hx hb hr hml hown hts hlocks hin hK hP hD hA hl hQ
  have hS : va_S A s.heap s.heap [] := va_S.rf
  have hl : lv_has ls 4 [(0, .ref o), (1, .int (nI j))] := hl
  have hown : s.vm.findClass RM = some m.cls := hown
  have hHj := hHb j hj
  obtain ⟨H, hHe⟩ : ∃ H : Heap, H = s.heap := ⟨_, rfl⟩
  rw [← hHe] at hP
  have hS : va_S A s.heap H [] := by rw [hHe]; exact va_S.rf
  suffices h9 : W p l e rm_k_spoil s m args below meth c H [] 0 0 Q (F0 m 0 ls []) by rw [hHe] at h9; exact h9
  clear hHe
  refine lv_aload_n hx hb dM_spoil_0 rfl (lv_at hl 0 rfl) ?_
  refine lv_iload_n hx hb dM_spoil_1 rfl (lv_at hl 1 rfl) ?_
  refine ro_ki (va_runV (As := [.int (nI j)]) (rest := []) ⟨hx, hb, hml, hown, hts⟩ (k_isBlock_ok l D cI cJ cZ o mo n aP aH aT aB aZ aS aa ab ac aR j (by omega) (by omega)) (cwV 1 hts gM_spoil_M_isBlock_102 rfl rfl rfl (by decide +kernel) ⟨Nat.le_of_ble_eq_true rfl, Nat.le_of_ble_eq_true rfl⟩) (ro_preV (hP.sub [0] rfl) hK (va_recv hK hP (ci := 3) (q0 := 0) rfl rfl)) rfl rfl hl.1 rfl (lv_room (Nat.le_of_ble_eq_true rfl)) dM_spoil_2 ⟨Nat.le_of_ble_eq_true rfl, Nat.le_of_ble_eq_true rfl⟩) ?_
  refine lv_if_eq (tgt := 21) hx hb dM_spoil_5 (by decide) (fun c_5 => ?_) (fun c_5 => ?_)
  · skip
    rw [← nI_0] at c_5
    have c_5 : 1 = 0 := n_eq c_5 (by omega) (by omega)
    omega
  · skip
    rw [← nI_0] at c_5
    have c_5 : ¬ 1 = 0 := n_ne c_5
    refine lv_iload_n hx hb dM_spoil_8 rfl (lv_at hl 1 rfl) ?_
    refine lv_if_eq (tgt := 21) hx hb dM_spoil_9 (by decide) (fun c_9 => ?_) (fun c_9 => ?_)
    · skip
      rw [← nI_0] at c_9
      have c_9 : j = 0 := n_eq c_9 (by omega) (by omega)
      omega
    · skip
      rw [← nI_0] at c_9
      have c_9 : ¬ j = 0 := n_ne c_9
      refine lv_aload_n hx hb dM_spoil_12 rfl (lv_at hl 0 rfl) ?_
      refine va_get (D := D) (ci := 3) (v := .ref aZ) (C := RM) (T := TM) (N := 12) hx hb hts iM_spoil_M hown hK hP 0 rfl rfl 6 (by decide) (hts (.fieldLink RM 23 "TreeDeskModel" "bad" "[Z") (by decide +kernel)) (fun _ h9 => h9) rfl dM_spoil_13 ?_
      refine lv_iload_n hx hb dM_spoil_16 rfl (lv_at hl 1 rfl) ?_
      refine ar_zld (j := j) hx hb hK hP 3 2 rfl rfl dM_spoil_17 (by omega) (by omega) ?_
      refine tp_i (y := nI (Zb j)) rfl ?_
      refine lv_if_eq (tgt := 23) hx hb dM_spoil_18 (by decide) (fun c_18 => ?_) (fun c_18 => ?_)
      · skip
        rw [← nI_0] at c_18
        have c_18 : (Zb j) = 0 := n_eq c_18 (by omega) (by omega)
        refine lv_iconst (v := nI 0) hx hb dM_spoil_23 (by decide) ?_
        refine lv_istore_n (lv' := [(2, .int (nI 0)), (0, .ref o), (1, .int (nI j))]) hx hb dM_spoil_24 rfl hl (by decide) rfl (fun ls hl => ?_)
        refine lv_iconst (v := nI 0) hx hb dM_spoil_25 (by decide) ?_
        refine lv_istore_n (lv' := [(3, .int (nI 0)), (2, .int (nI 0)), (0, .ref o), (1, .int (nI j))]) hx hb dM_spoil_26 rfl hl (by decide) rfl (fun ls hl => ?_)
        have lp_27 : ∀ (n_27 : Nat) (d i s9 : Nat) (z : Nat → Nat), (d < n_27) → (i + d = n) → (s9 ≤ i) → (∀ x : Nat, z x < 2) → (r_gone P Hh j d i s9 z = r_gone P Hh j n 0 0 Zb) → ∀ (H : Heap) (locs : List Loc), va_P D vwCl [(o, .inr (3, [.int (nI mo), .int (nI n), .ref aP, .ref aH, .ref aT, .ref aB, .ref aZ, .ref aS, .ref aa, .ref ab, .ref ac, .ref aR])), (aP, .inl (cI, 300, .inl (pF P))), (aH, .inl (cI, 300, .inl (nF Hh))), (aZ, .inl (cZ, 300, .inl (nF z)))] H → va_D A [(o, .inr (3, [.int (nI mo), .int (nI n), .ref aP, .ref aH, .ref aT, .ref aB, .ref aZ, .ref aS, .ref aa, .ref ab, .ref ac, .ref aR])), (aP, .inl (cI, 300, .inl (pF P))), (aH, .inl (cI, 300, .inl (nF Hh))), (aZ, .inl (cZ, 300, .inl (nF z)))] → va_S A s.heap H locs → ∀ (ls : Array Slot), lv_has ls 4 [(0, .ref o), (1, .int (nI j)), (2, .int (nI s9)), (3, .int (nI i))] → W p l e rm_k_spoil s m args below meth c H locs 0 0 Q (F0 m 27 ls []) := by
          intro n_27
          induction n_27 with
          | zero => intro d i s9 z hn hd hs9 hz hg H locs hP hD hS ls hl; exact absurd hn (by omega)
          | succ n_27 ih_27 =>
            intro d i s9 z hn hd hs9 hz hg H locs hP hD hS ls hl
            refine lv_iload_n hx hb dM_spoil_27 rfl (lv_at hl 3 rfl) ?_
            refine lv_aload_n hx hb dM_spoil_28 rfl (lv_at hl 0 rfl) ?_
            refine va_get (D := D) (ci := 3) (v := .int (nI n)) (C := RM) (T := TM) (N := 12) hx hb hts iM_spoil_M hown hK hP 0 rfl rfl 1 (by decide) (hts (.fieldLink RM 54 "TreeDeskModel" "many" "I") (by decide +kernel)) (fun _ h9 => h9) rfl dM_spoil_29 ?_
            refine lv_icmp_ge (tgt := 75) hx hb dM_spoil_32 (by decide) (fun c_32 => ?_) (fun c_32 => ?_)
            · skip
              have c_32 : n ≤ i := n_le c_32 (by omega) (by omega)
              have hd0 : d = 0 := by omega
              subst hd0
              have hz8 : r_gone P Hh j n 0 0 Zb = (z, s9) := hg.symm.trans rfl
              refine lv_iload_n hx hb dM_spoil_75 rfl (lv_at hl 2 rfl) ?_
              exact rw_iret (w := [(o, .inr (3, [.int (nI mo), .int (nI n), .ref aP, .ref aH, .ref aT, .ref aB, .ref aZ, .ref aS, .ref aa, .ref ab, .ref ac, .ref aR])), (aP, .inl (cI, 300, .inl (pF P))), (aH, .inl (cI, 300, .inl (nF Hh))), (aZ, .inl (cZ, 300, .inl (nF z)))]) hQ hx hb hr hlocks dM_spoil_76 (hP.sub [0, 1, 2, 3] rfl) (hD.sub [0, 1, 2, 3] (by decide) rfl) hS ⟨by rw [hz8], by rw [hz8]⟩
            · skip
              have c_32 : i < n := n_nle c_32 (by omega) (by omega)
              obtain ⟨d, rfl⟩ : ∃ d' : Nat, d = d' + 1 := ⟨d - 1, by omega⟩
              have hzi := hz i
              refine lv_aload_n hx hb dM_spoil_35 rfl (lv_at hl 0 rfl) ?_
              refine va_get (D := D) (ci := 3) (v := .ref aZ) (C := RM) (T := TM) (N := 12) hx hb hts iM_spoil_M hown hK hP 0 rfl rfl 6 (by decide) (hts (.fieldLink RM 23 "TreeDeskModel" "bad" "[Z") (by decide +kernel)) (fun _ h9 => h9) rfl dM_spoil_36 ?_
              refine lv_iload_n hx hb dM_spoil_39 rfl (lv_at hl 3 rfl) ?_
              refine ar_zld (j := i) hx hb hK hP 3 2 rfl rfl dM_spoil_40 (by omega) (by omega) ?_
              refine tp_i (y := nI (z i)) rfl ?_
              refine lv_if_ne (tgt := 69) hx hb dM_spoil_41 (by decide) (fun c_41 => ?_) (fun c_41 => ?_)
              · skip
                rw [← nI_0] at c_41
                have c_41 : ¬ (z i) = 0 := n_ne c_41
                refine lv_iinc (v := nI (i + 1)) (lv' := [(3, .int (nI (i + 1))), (0, .ref o), (1, .int (nI j)), (2, .int (nI s9))]) hx hb dM_spoil_69 hl (k := 3) rfl (nI_add _ 1) (by decide) rfl (fun ls hl => ?_)
                refine lv_goto (tgt := 27) hx hb dM_spoil_72 (by decide) ?_
                exact ih_27 d (i + 1) s9 z (by omega) (by omega) (by omega) hz (by rw [← hg, r_gone, if_neg c_41]) _ _ (hP.sub [0, 1, 2, 3] rfl) (hD.sub [0, 1, 2, 3] (by decide) rfl) hS ls (lv_sub hl [1, 2, 3, 0] rfl)
              · skip
                rw [← nI_0] at c_41
                have c_41 : (z i) = 0 := n_eq c_41 (by omega) (by omega)
                refine lv_aload_n hx hb dM_spoil_44 rfl (lv_at hl 0 rfl) ?_
                refine lv_iload_n hx hb dM_spoil_45 rfl (lv_at hl 3 rfl) ?_
                refine lv_aload_n hx hb dM_spoil_46 rfl (lv_at hl 0 rfl) ?_
                refine va_get (D := D) (ci := 3) (v := .ref aH) (C := RM) (T := TM) (N := 12) hx hb hts iM_spoil_M hown hK hP 0 rfl rfl 3 (by decide) (hts (.fieldLink RM 13 "TreeDeskModel" "height" "[I") (by decide +kernel)) (fun _ h9 => h9) rfl dM_spoil_47 ?_
                refine lv_iload_n hx hb dM_spoil_50 rfl (lv_at hl 1 rfl) ?_
                refine ar_ild (j := j) hx hb hK hP 2 0 rfl rfl dM_spoil_51 (by omega) (by omega) ?_
                refine tp_i (y := nI (Hh j)) rfl ?_
                refine ro_ki (va_runV (As := [.int (nI i), .int (nI (Hh j))]) (rest := []) ⟨hx, hb, hml, hown, hts⟩ (k_below l D cI cJ cZ o mo n aP aH aT aB aZ aS aa ab ac aR P Hh i (Hh j) (by omega) (by omega) (by omega) hpar hH0 hHs hHb) (cwV 2 hts gM_spoil_M_below_108 rfl rfl rfl (by decide +kernel) ⟨Nat.le_of_ble_eq_true rfl, Nat.le_of_ble_eq_true rfl⟩) (ro_preV (hP.sub [0, 1, 2] rfl) hK (va_recv hK hP (ci := 3) (q0 := 0) rfl rfl)) rfl rfl hl.1 rfl (lv_room (Nat.le_of_ble_eq_true rfl)) dM_spoil_52 ⟨Nat.le_of_ble_eq_true rfl, Nat.le_of_ble_eq_true rfl⟩) ?_
                refine lv_iload_n hx hb dM_spoil_55 rfl (lv_at hl 1 rfl) ?_
                refine lv_icmp_ne (tgt := 69) hx hb dM_spoil_56 (by decide) (fun c_56 => ?_) (fun c_56 => ?_)
                · skip
                  refine lv_iinc (v := nI (i + 1)) (lv' := [(3, .int (nI (i + 1))), (0, .ref o), (1, .int (nI j)), (2, .int (nI s9))]) hx hb dM_spoil_69 hl (k := 3) rfl (nI_add _ 1) (by decide) rfl (fun ls hl => ?_)
                  refine lv_goto (tgt := 27) hx hb dM_spoil_72 (by decide) ?_
                  exact ih_27 d (i + 1) s9 z (by omega) (by omega) (by omega) hz (by rw [← hg, r_gone, if_pos c_41, if_neg c_56]) _ _ (hP.sub [0, 1, 2, 3] rfl) (hD.sub [0, 1, 2, 3] (by decide) rfl) hS ls (lv_sub hl [1, 2, 3, 0] rfl)
                · skip
                  refine lv_aload_n hx hb dM_spoil_59 rfl (lv_at hl 0 rfl) ?_
                  refine va_get (D := D) (ci := 3) (v := .ref aZ) (C := RM) (T := TM) (N := 12) hx hb hts iM_spoil_M hown hK hP 0 rfl rfl 6 (by decide) (hts (.fieldLink RM 23 "TreeDeskModel" "bad" "[Z") (by decide +kernel)) (fun _ h9 => h9) rfl dM_spoil_60 ?_
                  refine lv_iload_n hx hb dM_spoil_63 rfl (lv_at hl 3 rfl) ?_
                  refine lv_iconst (v := nI 1) hx hb dM_spoil_64 (by decide) ?_
                  refine ar_zst (j := i) (x' := nI 1) hx hb hK hP hD hS 3 2 rfl rfl dM_spoil_65 (by omega) (by omega) rfl (fun H locs hP hD hS => ?_)
                  have hP : va_P D vwCl [(o, .inr (3, [.int (nI mo), .int (nI n), .ref aP, .ref aH, .ref aT, .ref aB, .ref aZ, .ref aS, .ref aa, .ref ab, .ref ac, .ref aR])), (aP, .inl (cI, 300, .inl (pF P))), (aH, .inl (cI, 300, .inl (nF Hh))), (aZ, .inl (cZ, 300, .inl (upd (nF z) i (nI 1))))] H := hP
                  have hD : va_D A [(o, .inr (3, [.int (nI mo), .int (nI n), .ref aP, .ref aH, .ref aT, .ref aB, .ref aZ, .ref aS, .ref aa, .ref ab, .ref ac, .ref aR])), (aP, .inl (cI, 300, .inl (pF P))), (aH, .inl (cI, 300, .inl (nF Hh))), (aZ, .inl (cZ, 300, .inl (upd (nF z) i (nI 1))))] := hD
                  have e_w65 : upd (nF z) i (nI 1) = nF (updN z i 1) := nF_u z i 1
                  rw [e_w65] at hP hD
                  refine lv_iinc (v := nI (s9 + 1)) (lv' := [(2, .int (nI (s9 + 1))), (0, .ref o), (1, .int (nI j)), (3, .int (nI i))]) hx hb dM_spoil_66 hl (k := 2) rfl (nI_add _ 1) (by decide) rfl (fun ls hl => ?_)
                  refine lv_iinc (v := nI (i + 1)) (lv' := [(3, .int (nI (i + 1))), (2, .int (nI (s9 + 1))), (0, .ref o), (1, .int (nI j))]) hx hb dM_spoil_69 hl (k := 3) rfl (nI_add _ 1) (by decide) rfl (fun ls hl => ?_)
                  refine lv_goto (tgt := 27) hx hb dM_spoil_72 (by decide) ?_
                  exact ih_27 d (i + 1) (s9 + 1) (updN z i 1) (by omega) (by omega) (by omega) (updN_2 hz) (by rw [← hg, r_gone, if_pos c_41, if_pos c_56]) _ _ (hP.sub [0, 1, 2, 3] rfl) (hD.sub [0, 1, 2, 3] (by decide) rfl) hS ls (lv_sub hl [2, 3, 1, 0] rfl)
        exact lp_27 (n + 1) n 0 0 Zb (by omega) (by omega) (by omega) hz9 rfl _ _ (hP.sub [0, 1, 2, 3] rfl) (hD.sub [0, 1, 2, 3] (by decide) rfl) hS ls (lv_sub hl [2, 3, 1, 0] rfl)
      · skip
        rw [← nI_0] at c_18
        have c_18 : ¬ (Zb j) = 0 := n_ne c_18
        omega
