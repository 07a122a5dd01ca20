abbrev rm_k_quotient : Room := { frames := 1, cells := 0, slots := 0, locals := 23 }
set_option maxRecDepth 100000 in
set_option maxHeartbeats 4000000 in
theorem k_quotient (l : Launch) (D : va_G) (cI cJ cZ : ClassId) (o : Nat) (mo : Nat) (n : Nat) (aP : Nat) (aH : Nat) (aT : Nat) (aB : Nat) (aZ : Nat) (aS : Nat) (aa : Nat) (ab : Nat) (ac : Nat) (aR : Nat) (α : Nat → Nat) (β : Nat → Nat) (γ : Nat → Nat) (hα8 : by8 α) (hβ8 : by8 β) (hγ8 : by8 γ) : rw_C l yM_quotient wM_quotient rm_k_quotient D vwCl (gT cI cJ cZ) [.ref o] [(o, .inr (3, [.int (nI mo), .int (nI n), .ref aP, .ref aH, .ref aT, .ref aB, .ref aZ, .ref aS, .ref aa, .ref ab, .ref ac, .ref aR])), (aa, .inl (cI, 40, .inl (nF α))), (ab, .inl (cI, 40, .inl (nF β))), (ac, .inl (cI, 40, .inl (nF γ)))] (fun v9 w9 => v9 = none ∧ w9 = [(o, .inr (3, [.int (nI mo), .int (nI n), .ref aP, .ref aH, .ref aT, .ref aB, .ref aZ, .ref aS, .ref aa, .ref ab, .ref ac, .ref aR])), (aa, .inl (cI, 40, .inl (nF ((r_quo α β γ).1)))), (ab, .inl (cI, 40, .inl (nF (r_inc α β)))), (ac, .inl (cI, 40, .inl (nF ((r_quo α β γ).2))))]) 0 0 := by
  refine rw_of (cc := cM_quotient) (maxL := 7) (ret := none) (by decide) rfl (Nat.le_of_ble_eq_true rfl) ?_
  intro p e s m args below meth c Q A ls hx hb hr hml hown hts hlocks hin hK hP hD hA hl hQ
  have hS : va_S A s.heap s.heap [] := va_S.rf
  have hl : lv_has ls 7 [(0, .ref o)] := hl
  have hown : s.vm.findClass RM = some m.cls := hown
  obtain ⟨H, hHe⟩ : ∃ H : Heap, H = s.heap := ⟨_, rfl⟩
  rw [← hHe] at hP
  have hS : va_S A s.heap H [] := by rw [hHe]; exact va_S.rf
  suffices h9 : W p l e rm_k_quotient s m args below meth c H [] 0 0 Q (F0 m 0 ls []) by rw [hHe] at h9; exact h9
  clear hHe
  refine lv_iconst (v := nI 1) hx hb dM_quotient_0 (by decide) ?_
  refine lv_istore_n (lv' := [(1, .int (nI 1)), (0, .ref o)]) hx hb dM_quotient_1 rfl hl (by decide) rfl (fun ls hl => ?_)
  refine lv_iconst (v := nI 0) hx hb dM_quotient_2 (by decide) ?_
  refine lv_istore_n (lv' := [(2, .int (nI 0)), (1, .int (nI 1)), (0, .ref o)]) hx hb dM_quotient_3 rfl hl (by decide) rfl (fun ls hl => ?_)
  have lp_4 : ∀ (n_4 : Nat) (d i cy : Nat) (b9 : Nat → Nat), (d < n_4) → (i + d = 40) → (cy ≤ 1) → (r_incL α d i cy b9 = r_inc α β) → ∀ (H : Heap) (locs : List Loc), va_P D vwCl [(o, .inr (3, [.int (nI mo), .int (nI n), .ref aP, .ref aH, .ref aT, .ref aB, .ref aZ, .ref aS, .ref aa, .ref ab, .ref ac, .ref aR])), (aa, .inl (cI, 40, .inl (nF α))), (ab, .inl (cI, 40, .inl (nF b9))), (ac, .inl (cI, 40, .inl (nF γ)))] H → va_D A [(o, .inr (3, [.int (nI mo), .int (nI n), .ref aP, .ref aH, .ref aT, .ref aB, .ref aZ, .ref aS, .ref aa, .ref ab, .ref ac, .ref aR])), (aa, .inl (cI, 40, .inl (nF α))), (ab, .inl (cI, 40, .inl (nF b9))), (ac, .inl (cI, 40, .inl (nF γ)))] → va_S A s.heap H locs → ∀ (ls : Array Slot), lv_has ls 7 [(0, .ref o), (1, .int (nI cy)), (2, .int (nI i))] → W p l e rm_k_quotient s m args below meth c H locs 0 0 Q (F0 m 4 ls []) := by
    intro n_4
    induction n_4 with
    | zero => intro d i cy b9 hn hd hcy hg H locs hP hD hS ls hl; exact absurd hn (by omega)
    | succ n_4 ih_4 =>
      intro d i cy b9 hn hd hcy hg H locs hP hD hS ls hl
      refine lv_iload_n hx hb dM_quotient_4 rfl (lv_at hl 2 rfl) ?_
      refine lv_bipush (v := nI 40) hx hb dM_quotient_5 (by decide) ?_
      refine lv_icmp_ge (tgt := 42) hx hb dM_quotient_7 (by decide) (fun c_7 => ?_) (fun c_7 => ?_)
      · skip
        have c_7 : 40 ≤ i := n_le c_7 (by omega) (by omega)
        have hd0 : d = 0 := by omega
        subst hd0
        have hb9 : b9 = r_inc α β := hg
        subst hb9
        refine lv_aload_n hx hb dM_quotient_42 rfl (lv_at hl 0 rfl) ?_
        refine va_get (D := D) (ci := 3) (v := .ref aa) (C := RM) (T := TM) (N := 12) hx hb hts iM_quotient_M hown hK hP 0 rfl rfl 8 (by decide) (hts (.fieldLink RM 30 "TreeDeskModel" "a" "[I") (by decide +kernel)) (fun _ h9 => h9) rfl dM_quotient_43 ?_
        refine rw_k (wc := [(aa, .inl (cI, 40, .inl (nF α)))]) (wr := [(o, .inr (3, [.int (nI mo), .int (nI n), .ref aP, .ref aH, .ref aT, .ref aB, .ref aZ, .ref aS, .ref aa, .ref ab, .ref ac, .ref aR])), (ab, .inl (cI, 40, .inl (nF (r_inc α β)))), (ac, .inl (cI, 40, .inl (nF γ)))]) (va_runS (As := [.ref aa]) (rest := []) ⟨hx, hb, hml, hown, hts⟩ (k_nothing l D cI cJ cZ aa α H.size) (va_cwS 1 hts gM_quotient_M_nothing_64 rfl rfl rfl (by decide +kernel) ⟨Nat.le_of_ble_eq_true rfl, Nat.le_of_ble_eq_true rfl⟩) (rw_preS (hP.sub [1] rfl) hK (hD.sub [1] (by decide) rfl)) rfl rfl hl.1 rfl (lv_room (Nat.le_of_ble_eq_true rfl)) dM_quotient_46 ⟨Nat.le_of_ble_eq_true rfl, Nat.le_of_ble_eq_true rfl⟩) hP hD hS hA [1] [0, 2, 3] rfl rfl (by decide) (by decide) (fun v9 w9 H locs hp9 hP hD hS => ?_)
        obtain ⟨rfl, rfl⟩ := hp9
        have hP : va_P D vwCl [(o, .inr (3, [.int (nI mo), .int (nI n), .ref aP, .ref aH, .ref aT, .ref aB, .ref aZ, .ref aS, .ref aa, .ref ab, .ref ac, .ref aR])), (ab, .inl (cI, 40, .inl (nF (r_inc α β)))), (ac, .inl (cI, 40, .inl (nF γ))), (aa, .inl (cI, 40, .inl (nF (zN α 40))))] H := hP
        have hD : va_D A [(o, .inr (3, [.int (nI mo), .int (nI n), .ref aP, .ref aH, .ref aT, .ref aB, .ref aZ, .ref aS, .ref aa, .ref ab, .ref ac, .ref aR])), (ab, .inl (cI, 40, .inl (nF (r_inc α β)))), (ac, .inl (cI, 40, .inl (nF γ))), (aa, .inl (cI, 40, .inl (nF (zN α 40))))] := hD
        refine W.eq (g2 := F0 m 49 ls []) rfl ?_
        refine lv_aload_n hx hb dM_quotient_49 rfl (lv_at hl 0 rfl) ?_
        refine va_get (D := D) (ci := 3) (v := .ref ac) (C := RM) (T := TM) (N := 12) hx hb hts iM_quotient_M hown hK hP 0 rfl rfl 10 (by decide) (hts (.fieldLink RM 36 "TreeDeskModel" "c" "[I") (by decide +kernel)) (fun _ h9 => h9) rfl dM_quotient_50 ?_
        refine rw_k (wc := [(ac, .inl (cI, 40, .inl (nF γ)))]) (wr := [(o, .inr (3, [.int (nI mo), .int (nI n), .ref aP, .ref aH, .ref aT, .ref aB, .ref aZ, .ref aS, .ref aa, .ref ab, .ref ac, .ref aR])), (ab, .inl (cI, 40, .inl (nF (r_inc α β)))), (aa, .inl (cI, 40, .inl (nF (zN α 40))))]) (va_runS (As := [.ref ac]) (rest := []) ⟨hx, hb, hml, hown, hts⟩ (k_nothing l D cI cJ cZ ac γ H.size) (va_cwS 1 hts gM_quotient_M_nothing_64 rfl rfl rfl (by decide +kernel) ⟨Nat.le_of_ble_eq_true rfl, Nat.le_of_ble_eq_true rfl⟩) (rw_preS (hP.sub [2] rfl) hK (hD.sub [2] (by decide) rfl)) rfl rfl hl.1 rfl (lv_room (Nat.le_of_ble_eq_true rfl)) dM_quotient_53 ⟨Nat.le_of_ble_eq_true rfl, Nat.le_of_ble_eq_true rfl⟩) hP hD hS hA [2] [0, 1, 3] rfl rfl (by decide) (by decide) (fun v9 w9 H locs hp9 hP hD hS => ?_)
        obtain ⟨rfl, rfl⟩ := hp9
        have hP : va_P D vwCl [(o, .inr (3, [.int (nI mo), .int (nI n), .ref aP, .ref aH, .ref aT, .ref aB, .ref aZ, .ref aS, .ref aa, .ref ab, .ref ac, .ref aR])), (ab, .inl (cI, 40, .inl (nF (r_inc α β)))), (aa, .inl (cI, 40, .inl (nF (zN α 40)))), (ac, .inl (cI, 40, .inl (nF (zN γ 40))))] H := hP
        have hD : va_D A [(o, .inr (3, [.int (nI mo), .int (nI n), .ref aP, .ref aH, .ref aT, .ref aB, .ref aZ, .ref aS, .ref aa, .ref ab, .ref ac, .ref aR])), (ab, .inl (cI, 40, .inl (nF (r_inc α β)))), (aa, .inl (cI, 40, .inl (nF (zN α 40)))), (ac, .inl (cI, 40, .inl (nF (zN γ 40))))] := hD
        refine W.eq (g2 := F0 m 56 ls []) rfl ?_
        refine lv_sipush (v := nI 256) hx hb dM_quotient_56 (by decide) ?_
        refine lv_istore_n (lv' := [(2, .int (nI 256)), (0, .ref o), (1, .int (nI cy))]) hx hb dM_quotient_59 rfl hl (by decide) rfl (fun ls hl => ?_)
        have lp_60 : ∀ (n_60 : Nat) (K : Nat) (i : Int32) (a9 g : Nat → Nat), (K < n_60) → (K ≤ 257) → (i = nI K + (-1)) → (by8 g) → (r_qL (r_inc α β) K a9 g = r_quo α β γ) → ∀ (H : Heap) (locs : List Loc), va_P D vwCl [(o, .inr (3, [.int (nI mo), .int (nI n), .ref aP, .ref aH, .ref aT, .ref aB, .ref aZ, .ref aS, .ref aa, .ref ab, .ref ac, .ref aR])), (aa, .inl (cI, 40, .inl (nF a9))), (ab, .inl (cI, 40, .inl (nF (r_inc α β)))), (ac, .inl (cI, 40, .inl (nF g)))] H → va_D A [(o, .inr (3, [.int (nI mo), .int (nI n), .ref aP, .ref aH, .ref aT, .ref aB, .ref aZ, .ref aS, .ref aa, .ref ab, .ref ac, .ref aR])), (aa, .inl (cI, 40, .inl (nF a9))), (ab, .inl (cI, 40, .inl (nF (r_inc α β)))), (ac, .inl (cI, 40, .inl (nF g)))] → va_S A s.heap H locs → ∀ (ls : Array Slot), lv_has ls 7 [(0, .ref o), (2, .int i)] → W p l e rm_k_quotient s m args below meth c H locs 0 0 Q (F0 m 60 ls []) := by
          intro n_60
          induction n_60 with
          | zero => intro K i a9 g hn hKK hi hg8 hg H locs hP hD hS ls hl; exact absurd hn (by omega)
          | succ n_60 ih_60 =>
            intro K i a9 g hn hKK hi hg8 hg H locs hP hD hS ls hl
            refine lv_iload_n hx hb dM_quotient_60 rfl (lv_at hl 1 rfl) ?_
            refine lv_if_lt (tgt := 245) hx hb dM_quotient_61 (by decide) (fun c_61 => ?_) (fun c_61 => ?_)
            · skip
              have hk0 : K = 0 := dn_0 hi c_61 (by omega)
              subst hk0
              exact rw_vret (w := [(o, .inr (3, [.int (nI mo), .int (nI n), .ref aP, .ref aH, .ref aT, .ref aB, .ref aZ, .ref aS, .ref aa, .ref ab, .ref ac, .ref aR])), (aa, .inl (cI, 40, .inl (nF a9))), (ab, .inl (cI, 40, .inl (nF (r_inc α β)))), (ac, .inl (cI, 40, .inl (nF g)))]) hQ hx hb hr hlocks dM_quotient_245 (hP.sub [0, 1, 2, 3] rfl) (hD.sub [0, 1, 2, 3] (by decide) rfl) hS ⟨rfl, by rw [show r_quo α β γ = (a9, g) from hg.symm]⟩
            · skip
              obtain ⟨k, rfl, rfl⟩ := dn_s hi c_61
              refine lv_iload_n hx hb dM_quotient_64 rfl (lv_at hl 1 rfl) ?_
              refine lv_sipush (v := nI 256) hx hb dM_quotient_65 (by decide) ?_
              refine lv_icmp_ne (tgt := 75) hx hb dM_quotient_68 (by decide) (fun c_68 => ?_) (fun c_68 => ?_)
              · skip
                have c_68 : ¬ k = 256 := n_ne c_68
                refine lv_iconst (v := nI 0) hx hb dM_quotient_75 (by decide) ?_
                refine lv_istore_n (lv' := [(3, .int (nI 0)), (0, .ref o), (2, .int (nI k))]) hx hb dM_quotient_76 rfl hl (by decide) rfl (fun ls hl => ?_)
                refine lv_iconst (v := nI 0) hx hb dM_quotient_77 (by decide) ?_
                refine lv_istore (lv' := [(4, .int (nI 0)), (3, .int (nI 0)), (0, .ref o), (2, .int (nI k))]) hx hb dM_quotient_78 hl (by decide) rfl (fun ls hl => ?_)
                have lp_80 : ∀ (n_80 : Nat) (d i cy : Nat) (g2 : Nat → Nat), (d < n_80) → (i + d = 40) → (cy ≤ 1) → (by8 g2) → (r_dblL d i cy g2 = (r_dblL 40 0 (if k = 256 then 1 else 0) g)) → ∀ (H : Heap) (locs : List Loc), va_P D vwCl [(o, .inr (3, [.int (nI mo), .int (nI n), .ref aP, .ref aH, .ref aT, .ref aB, .ref aZ, .ref aS, .ref aa, .ref ab, .ref ac, .ref aR])), (aa, .inl (cI, 40, .inl (nF a9))), (ab, .inl (cI, 40, .inl (nF (r_inc α β)))), (ac, .inl (cI, 40, .inl (nF g2)))] H → va_D A [(o, .inr (3, [.int (nI mo), .int (nI n), .ref aP, .ref aH, .ref aT, .ref aB, .ref aZ, .ref aS, .ref aa, .ref ab, .ref ac, .ref aR])), (aa, .inl (cI, 40, .inl (nF a9))), (ab, .inl (cI, 40, .inl (nF (r_inc α β)))), (ac, .inl (cI, 40, .inl (nF g2)))] → va_S A s.heap H locs → ∀ (ls : Array Slot), lv_has ls 7 [(0, .ref o), (2, .int (nI k)), (3, .int (nI cy)), (4, .int (nI i))] → W p l e rm_k_quotient s m args below meth c H locs 0 0 Q (F0 m 80 ls []) := by
                  intro n_80
                  induction n_80 with
                  | zero => intro d i cy g2 hn2 hd hcy hg28 hg2 H locs hP hD hS ls hl; exact absurd hn2 (by omega)
                  | succ n_80 ih_80 =>
                    intro d i cy g2 hn2 hd hcy hg28 hg2 H locs hP hD hS ls hl
                    refine lv_iload hx hb dM_quotient_80 (lv_at hl 3 rfl) ?_
                    refine lv_bipush (v := nI 40) hx hb dM_quotient_82 (by decide) ?_
                    refine lv_icmp_ge (tgt := 126) hx hb dM_quotient_84 (by decide) (fun c_84 => ?_) (fun c_84 => ?_)
                    · skip
                      have c_84 : 40 ≤ i := n_le c_84 (by omega) (by omega)
                      have hd0 : d = 0 := by omega
                      subst hd0
                      have hgg : g2 = (r_dblL 40 0 (if k = 256 then 1 else 0) g) := hg2
                      subst hgg
                      refine lv_aload_n hx hb dM_quotient_126 rfl (lv_at hl 0 rfl) ?_
                      refine va_get (D := D) (ci := 3) (v := .ref ac) (C := RM) (T := TM) (N := 12) hx hb hts iM_quotient_M hown hK hP 0 rfl rfl 10 (by decide) (hts (.fieldLink RM 36 "TreeDeskModel" "c" "[I") (by decide +kernel)) (fun _ h9 => h9) rfl dM_quotient_127 ?_
                      refine lv_aload_n hx hb dM_quotient_130 rfl (lv_at hl 0 rfl) ?_
                      refine va_get (D := D) (ci := 3) (v := .ref ab) (C := RM) (T := TM) (N := 12) hx hb hts iM_quotient_M hown hK hP 0 rfl rfl 9 (by decide) (hts (.fieldLink RM 33 "TreeDeskModel" "b" "[I") (by decide +kernel)) (fun _ h9 => h9) rfl dM_quotient_131 ?_
                      refine ro_ki (va_runS (As := [.ref ac, .ref ab]) (rest := []) ⟨hx, hb, hml, hown, hts⟩ (k_compareRows l D cI cJ cZ ac ab (r_dblL 40 0 (if k = 256 then 1 else 0) g) (r_inc α β) (r_dblL_by hg8) (r_incL_by hβ8)) (va_cwS 2 hts gM_quotient_M_compareRows_72 rfl rfl rfl (by decide +kernel) ⟨Nat.le_of_ble_eq_true rfl, Nat.le_of_ble_eq_true rfl⟩) (ro_preS (hP.sub [3, 2] rfl) hK) rfl rfl hl.1 rfl (lv_room (Nat.le_of_ble_eq_true rfl)) dM_quotient_134 ⟨Nat.le_of_ble_eq_true rfl, Nat.le_of_ble_eq_true rfl⟩) ?_
                      refine lv_if_lt (tgt := 239) hx hb dM_quotient_137 (by decide) (fun c_137 => ?_) (fun c_137 => ?_)
                      · skip
                        refine lv_iinc (v := (nI k) + (-1)) (lv' := [(2, .int ((nI k) + (-1))), (0, .ref o), (3, .int (nI cy)), (4, .int (nI i))]) hx hb dM_quotient_239 hl (k := 1) rfl rfl (by decide) rfl (fun ls hl => ?_)
                        refine lv_goto (tgt := 60) hx hb dM_quotient_242 (by decide) ?_
                        exact ih_60 k ((nI k) + (-1)) a9 (r_dblL 40 0 (if k = 256 then 1 else 0) g) (by omega) (by omega) rfl (r_dblL_by hg8) (by rw [← hg, r_qL, if_pos c_137]) _ _ (hP.sub [0, 1, 2, 3] rfl) (hD.sub [0, 1, 2, 3] (by decide) rfl) hS ls (lv_sub hl [1, 0] rfl)
                      · skip
                        refine lv_iconst (v := nI 0) hx hb dM_quotient_140 (by decide) ?_
                        refine lv_istore (lv' := [(4, .int (nI 0)), (0, .ref o), (2, .int (nI k)), (3, .int (nI cy))]) hx hb dM_quotient_141 hl (by decide) rfl (fun ls hl => ?_)
                        refine lv_iconst (v := nI 0) hx hb dM_quotient_143 (by decide) ?_
                        refine lv_istore (lv' := [(5, .int (nI 0)), (4, .int (nI 0)), (0, .ref o), (2, .int (nI k)), (3, .int (nI cy))]) hx hb dM_quotient_144 hl (by decide) rfl (fun ls hl => ?_)
                        have lp_146 : ∀ (n_146 : Nat) (d i bo : Nat) (g3 : Nat → Nat), (d < n_146) → (i + d = 40) → (bo ≤ 1) → (by8 g3) → (r_subL (r_inc α β) d i bo g3 = r_subL (r_inc α β) 40 0 0 (r_dblL 40 0 (if k = 256 then 1 else 0) g)) → ∀ (H : Heap) (locs : List Loc), va_P D vwCl [(o, .inr (3, [.int (nI mo), .int (nI n), .ref aP, .ref aH, .ref aT, .ref aB, .ref aZ, .ref aS, .ref aa, .ref ab, .ref ac, .ref aR])), (aa, .inl (cI, 40, .inl (nF a9))), (ab, .inl (cI, 40, .inl (nF (r_inc α β)))), (ac, .inl (cI, 40, .inl (nF g3)))] H → va_D A [(o, .inr (3, [.int (nI mo), .int (nI n), .ref aP, .ref aH, .ref aT, .ref aB, .ref aZ, .ref aS, .ref aa, .ref ab, .ref ac, .ref aR])), (aa, .inl (cI, 40, .inl (nF a9))), (ab, .inl (cI, 40, .inl (nF (r_inc α β)))), (ac, .inl (cI, 40, .inl (nF g3)))] → va_S A s.heap H locs → ∀ (ls : Array Slot), lv_has ls 7 [(0, .ref o), (2, .int (nI k)), (4, .int (nI bo)), (5, .int (nI i))] → W p l e rm_k_quotient s m args below meth c H locs 0 0 Q (F0 m 146 ls []) := by
                          intro n_146
                          induction n_146 with
                          | zero => intro d i bo g3 hn3 hd hbo hg38 hg3 H locs hP hD hS ls hl; exact absurd hn3 (by omega)
                          | succ n_146 ih_146 =>
                            intro d i bo g3 hn3 hd hbo hg38 hg3 H locs hP hD hS ls hl
                            refine lv_iload hx hb dM_quotient_146 (lv_at hl 3 rfl) ?_
                            refine lv_bipush (v := nI 40) hx hb dM_quotient_148 (by decide) ?_
                            refine lv_icmp_ge (tgt := 214) hx hb dM_quotient_150 (by decide) (fun c_150 => ?_) (fun c_150 => ?_)
                            · skip
                              have c_150 : 40 ≤ i := n_le c_150 (by omega) (by omega)
                              have hd0 : d = 0 := by omega
                              subst hd0
                              have hgg : g3 = r_subL (r_inc α β) 40 0 0 (r_dblL 40 0 (if k = 256 then 1 else 0) g) := hg3
                              subst hgg
                              refine lv_aload_n hx hb dM_quotient_214 rfl (lv_at hl 0 rfl) ?_
                              refine va_get (D := D) (ci := 3) (v := .ref aa) (C := RM) (T := TM) (N := 12) hx hb hts iM_quotient_M hown hK hP 0 rfl rfl 8 (by decide) (hts (.fieldLink RM 30 "TreeDeskModel" "a" "[I") (by decide +kernel)) (fun _ h9 => h9) rfl dM_quotient_215 ?_
                              refine lv_iload_n hx hb dM_quotient_218 rfl (lv_at hl 1 rfl) ?_
                              refine lv_bipush (v := nI 8) hx hb dM_quotient_219 (by decide) ?_
                              refine lv_idiv hx hb dM_quotient_221 (nI_ne0 (by omega) (by omega)) ?_
                              refine tp_i (y := nI (k / 8)) (pk_div (by omega) (by omega) (by omega)) ?_
                              refine lv_aload_n hx hb dM_quotient_222 rfl (lv_at hl 0 rfl) ?_
                              refine va_get (D := D) (ci := 3) (v := .ref aa) (C := RM) (T := TM) (N := 12) hx hb hts iM_quotient_M hown hK hP 0 rfl rfl 8 (by decide) (hts (.fieldLink RM 30 "TreeDeskModel" "a" "[I") (by decide +kernel)) (fun _ h9 => h9) rfl dM_quotient_223 ?_
                              refine lv_iload_n hx hb dM_quotient_226 rfl (lv_at hl 1 rfl) ?_
                              refine lv_bipush (v := nI 8) hx hb dM_quotient_227 (by decide) ?_
                              refine lv_idiv hx hb dM_quotient_229 (nI_ne0 (by omega) (by omega)) ?_
                              refine tp_i (y := nI (k / 8)) (pk_div (by omega) (by omega) (by omega)) ?_
                              refine ar_ild (j := k / 8) hx hb hK hP 1 0 rfl rfl dM_quotient_230 (by omega) (by omega) ?_
                              refine tp_i (y := nI (a9 (k / 8))) rfl ?_
                              refine lv_iconst (v := nI 1) hx hb dM_quotient_231 (by decide) ?_
                              refine lv_iload_n hx hb dM_quotient_232 rfl (lv_at hl 1 rfl) ?_
                              refine lv_bipush (v := nI 8) hx hb dM_quotient_233 (by decide) ?_
                              refine lv_irem hx hb dM_quotient_235 (nI_ne0 (by omega) (by omega)) ?_
                              refine tp_i (y := nI (k % 8)) (pk_rem (by omega) (by omega) (by omega)) ?_
                              refine lv_ishl hx hb dM_quotient_236 ?_
                              refine tp_i (y := nI (2 ^ (k % 8))) (sh_1 (by omega)) ?_
                              refine lv_iadd hx hb dM_quotient_237 ?_
                              refine tp_i (y := nI ((a9 (k / 8)) + (2 ^ (k % 8)))) (nI_add _ _) ?_
                              refine ar_ist (j := k / 8) hx hb hK hP hD hS 1 0 rfl rfl dM_quotient_238 (by omega) (by omega) (fun H locs hP hD hS => ?_)
                              have hP : va_P D vwCl [(o, .inr (3, [.int (nI mo), .int (nI n), .ref aP, .ref aH, .ref aT, .ref aB, .ref aZ, .ref aS, .ref aa, .ref ab, .ref ac, .ref aR])), (aa, .inl (cI, 40, .inl (upd (nF a9) (k / 8) (nI ((a9 (k / 8)) + (2 ^ (k % 8))))))), (ab, .inl (cI, 40, .inl (nF (r_inc α β)))), (ac, .inl (cI, 40, .inl (nF (r_subL (r_inc α β) 40 0 0 (r_dblL 40 0 (if k = 256 then 1 else 0) g)))))] H := hP
                              have hD : va_D A [(o, .inr (3, [.int (nI mo), .int (nI n), .ref aP, .ref aH, .ref aT, .ref aB, .ref aZ, .ref aS, .ref aa, .ref ab, .ref ac, .ref aR])), (aa, .inl (cI, 40, .inl (upd (nF a9) (k / 8) (nI ((a9 (k / 8)) + (2 ^ (k % 8))))))), (ab, .inl (cI, 40, .inl (nF (r_inc α β)))), (ac, .inl (cI, 40, .inl (nF (r_subL (r_inc α β) 40 0 0 (r_dblL 40 0 (if k = 256 then 1 else 0) g)))))] := hD
                              have e_w238 : upd (nF a9) (k / 8) (nI ((a9 (k / 8)) + (2 ^ (k % 8)))) = nF (updN a9 (k / 8) (a9 (k / 8) + 2 ^ (k % 8))) := nF_u a9 _ _
                              rw [e_w238] at hP hD
                              refine lv_iinc (v := (nI k) + (-1)) (lv' := [(2, .int ((nI k) + (-1))), (0, .ref o), (4, .int (nI bo)), (5, .int (nI i))]) hx hb dM_quotient_239 hl (k := 1) rfl rfl (by decide) rfl (fun ls hl => ?_)
                              refine lv_goto (tgt := 60) hx hb dM_quotient_242 (by decide) ?_
                              exact ih_60 k ((nI k) + (-1)) (updN a9 (k / 8) (a9 (k / 8) + 2 ^ (k % 8))) (r_subL (r_inc α β) 40 0 0 (r_dblL 40 0 (if k = 256 then 1 else 0) g)) (by omega) (by omega) rfl (r_subL_by (r_dblL_by hg8)) (by rw [← hg, r_qL, if_neg c_137]) _ _ (hP.sub [0, 1, 2, 3] rfl) (hD.sub [0, 1, 2, 3] (by decide) rfl) hS ls (lv_sub hl [1, 0] rfl)
                            · skip
                              have c_150 : i < 40 := n_nle c_150 (by omega) (by omega)
                              obtain ⟨d, rfl⟩ : ∃ d' : Nat, d = d' + 1 := ⟨d - 1, by omega⟩
                              have hai := hg38 i
                              have hbi : r_inc α β i < 256 := r_incL_by hβ8 i
                              refine lv_aload_n hx hb dM_quotient_153 rfl (lv_at hl 0 rfl) ?_
                              refine va_get (D := D) (ci := 3) (v := .ref ac) (C := RM) (T := TM) (N := 12) hx hb hts iM_quotient_M hown hK hP 0 rfl rfl 10 (by decide) (hts (.fieldLink RM 36 "TreeDeskModel" "c" "[I") (by decide +kernel)) (fun _ h9 => h9) rfl dM_quotient_154 ?_
                              refine lv_iload hx hb dM_quotient_157 (lv_at hl 3 rfl) ?_
                              refine ar_ild (j := i) hx hb hK hP 3 0 rfl rfl dM_quotient_159 (by omega) (by omega) ?_
                              refine tp_i (y := nI (g3 i)) rfl ?_
                              refine lv_aload_n hx hb dM_quotient_160 rfl (lv_at hl 0 rfl) ?_
                              refine va_get (D := D) (ci := 3) (v := .ref ab) (C := RM) (T := TM) (N := 12) hx hb hts iM_quotient_M hown hK hP 0 rfl rfl 9 (by decide) (hts (.fieldLink RM 33 "TreeDeskModel" "b" "[I") (by decide +kernel)) (fun _ h9 => h9) rfl dM_quotient_161 ?_
                              refine lv_iload hx hb dM_quotient_164 (lv_at hl 3 rfl) ?_
                              refine ar_ild (j := i) hx hb hK hP 2 0 rfl rfl dM_quotient_166 (by omega) (by omega) ?_
                              refine tp_i (y := nI (r_inc α β i)) rfl ?_
                              refine lv_isub hx hb dM_quotient_167 ?_
                              refine lv_iload hx hb dM_quotient_168 (lv_at hl 2 rfl) ?_
                              refine lv_isub hx hb dM_quotient_170 ?_
                              refine lv_istore (lv' := [(6, .int (((nI (g3 i)) - (nI (r_inc α β i))) - (nI bo))), (0, .ref o), (2, .int (nI k)), (4, .int (nI bo)), (5, .int (nI i))]) hx hb dM_quotient_171 hl (by decide) rfl (fun ls hl => ?_)
                              refine lv_aload_n hx hb dM_quotient_173 rfl (lv_at hl 1 rfl) ?_
                              refine va_get (D := D) (ci := 3) (v := .ref ac) (C := RM) (T := TM) (N := 12) hx hb hts iM_quotient_M hown hK hP 0 rfl rfl 10 (by decide) (hts (.fieldLink RM 36 "TreeDeskModel" "c" "[I") (by decide +kernel)) (fun _ h9 => h9) rfl dM_quotient_174 ?_
                              refine lv_iload hx hb dM_quotient_177 (lv_at hl 4 rfl) ?_
                              refine lv_iload hx hb dM_quotient_179 (lv_at hl 0 rfl) ?_
                              refine lv_if_ge (tgt := 193) hx hb dM_quotient_181 (by decide) (fun c_181 => ?_) (fun c_181 => ?_)
                              · skip
                                have hge : r_inc α β i + bo ≤ g3 i := sb3_ge c_181 (by omega) (by omega) (by omega)
                                refine lv_iload hx hb dM_quotient_193 (lv_at hl 0 rfl) ?_
                                refine tp_i (y := nI (g3 i - r_inc α β i - bo)) (sb3_v hge) ?_
                                refine ar_ist (j := i) hx hb hK hP hD hS 3 0 rfl rfl dM_quotient_195 (by omega) (by omega) (fun H locs hP hD hS => ?_)
                                have hP : va_P D vwCl [(o, .inr (3, [.int (nI mo), .int (nI n), .ref aP, .ref aH, .ref aT, .ref aB, .ref aZ, .ref aS, .ref aa, .ref ab, .ref ac, .ref aR])), (aa, .inl (cI, 40, .inl (nF a9))), (ab, .inl (cI, 40, .inl (nF (r_inc α β)))), (ac, .inl (cI, 40, .inl (upd (nF g3) i (nI (g3 i - r_inc α β i - bo)))))] H := hP
                                have hD : va_D A [(o, .inr (3, [.int (nI mo), .int (nI n), .ref aP, .ref aH, .ref aT, .ref aB, .ref aZ, .ref aS, .ref aa, .ref ab, .ref ac, .ref aR])), (aa, .inl (cI, 40, .inl (nF a9))), (ab, .inl (cI, 40, .inl (nF (r_inc α β)))), (ac, .inl (cI, 40, .inl (upd (nF g3) i (nI (g3 i - r_inc α β i - bo)))))] := hD
                                have e_w195 : upd (nF g3) i (nI (g3 i - r_inc α β i - bo)) = nF (updN g3 i (g3 i - r_inc α β i - bo)) := nF_u g3 i _
                                rw [e_w195] at hP hD
                                refine lv_iload hx hb dM_quotient_196 (lv_at hl 0 rfl) ?_
                                refine lv_if_ge (tgt := 205) hx hb dM_quotient_198 (by decide) (fun c_198 => ?_) (fun c_198 => ?_)
                                · skip
                                  refine lv_iconst (v := nI 0) hx hb dM_quotient_205 (by decide) ?_
                                  refine lv_istore (lv' := [(4, .int (nI 0)), (6, .int (((nI (g3 i)) - (nI (r_inc α β i))) - (nI bo))), (0, .ref o), (2, .int (nI k)), (5, .int (nI i))]) hx hb dM_quotient_206 hl (by decide) rfl (fun ls hl => ?_)
                                  refine lv_iinc (v := nI (i + 1)) (lv' := [(5, .int (nI (i + 1))), (4, .int (nI 0)), (6, .int (((nI (g3 i)) - (nI (r_inc α β i))) - (nI bo))), (0, .ref o), (2, .int (nI k))]) hx hb dM_quotient_208 hl (k := 4) rfl (nI_add _ 1) (by decide) rfl (fun ls hl => ?_)
                                  refine lv_goto (tgt := 146) hx hb dM_quotient_211 (by decide) ?_
                                  exact ih_146 d (i + 1) 0 (updN g3 i (g3 i - r_inc α β i - bo)) (by omega) (by omega) (by omega) (by8_u hg38 (by omega)) (by rw [← hg3, r_subL, if_pos hge]) _ _ (hP.sub [0, 1, 2, 3] rfl) (hD.sub [0, 1, 2, 3] (by decide) rfl) hS ls (lv_sub hl [3, 4, 1, 0] rfl)
                                · skip
                                  exact absurd c_181 c_198
                              · skip
                                have hge : g3 i < r_inc α β i + bo := sb3_lt c_181 (by omega) (by omega) (by omega)
                                refine lv_iload hx hb dM_quotient_184 (lv_at hl 0 rfl) ?_
                                refine lv_sipush (v := nI 256) hx hb dM_quotient_186 (by decide) ?_
                                refine lv_iadd hx hb dM_quotient_189 ?_
                                refine tp_i (y := nI (g3 i + 256 - r_inc α β i - bo)) (sb3_w (by omega)) ?_
                                refine lv_goto (tgt := 195) hx hb dM_quotient_190 (by decide) ?_
                                refine ar_ist (j := i) hx hb hK hP hD hS 3 0 rfl rfl dM_quotient_195 (by omega) (by omega) (fun H locs hP hD hS => ?_)
                                have hP : va_P D vwCl [(o, .inr (3, [.int (nI mo), .int (nI n), .ref aP, .ref aH, .ref aT, .ref aB, .ref aZ, .ref aS, .ref aa, .ref ab, .ref ac, .ref aR])), (aa, .inl (cI, 40, .inl (nF a9))), (ab, .inl (cI, 40, .inl (nF (r_inc α β)))), (ac, .inl (cI, 40, .inl (upd (nF g3) i (nI (g3 i + 256 - r_inc α β i - bo)))))] H := hP
                                have hD : va_D A [(o, .inr (3, [.int (nI mo), .int (nI n), .ref aP, .ref aH, .ref aT, .ref aB, .ref aZ, .ref aS, .ref aa, .ref ab, .ref ac, .ref aR])), (aa, .inl (cI, 40, .inl (nF a9))), (ab, .inl (cI, 40, .inl (nF (r_inc α β)))), (ac, .inl (cI, 40, .inl (upd (nF g3) i (nI (g3 i + 256 - r_inc α β i - bo)))))] := hD
                                have e_w195 : upd (nF g3) i (nI (g3 i + 256 - r_inc α β i - bo)) = nF (updN g3 i (g3 i + 256 - r_inc α β i - bo)) := nF_u g3 i _
                                rw [e_w195] at hP hD
                                refine lv_iload hx hb dM_quotient_196 (lv_at hl 0 rfl) ?_
                                refine lv_if_ge (tgt := 205) hx hb dM_quotient_198 (by decide) (fun c_198 => ?_) (fun c_198 => ?_)
                                · skip
                                  exact absurd c_198 c_181
                                · skip
                                  refine lv_iconst (v := nI 1) hx hb dM_quotient_201 (by decide) ?_
                                  refine lv_goto (tgt := 206) hx hb dM_quotient_202 (by decide) ?_
                                  refine lv_istore (lv' := [(4, .int (nI 1)), (6, .int (((nI (g3 i)) - (nI (r_inc α β i))) - (nI bo))), (0, .ref o), (2, .int (nI k)), (5, .int (nI i))]) hx hb dM_quotient_206 hl (by decide) rfl (fun ls hl => ?_)
                                  refine lv_iinc (v := nI (i + 1)) (lv' := [(5, .int (nI (i + 1))), (4, .int (nI 1)), (6, .int (((nI (g3 i)) - (nI (r_inc α β i))) - (nI bo))), (0, .ref o), (2, .int (nI k))]) hx hb dM_quotient_208 hl (k := 4) rfl (nI_add _ 1) (by decide) rfl (fun ls hl => ?_)
                                  refine lv_goto (tgt := 146) hx hb dM_quotient_211 (by decide) ?_
                                  exact ih_146 d (i + 1) 1 (updN g3 i (g3 i + 256 - r_inc α β i - bo)) (by omega) (by omega) (by omega) (by8_u hg38 (by omega)) (by rw [← hg3, r_subL, if_neg (by omega)]) _ _ (hP.sub [0, 1, 2, 3] rfl) (hD.sub [0, 1, 2, 3] (by decide) rfl) hS ls (lv_sub hl [3, 4, 1, 0] rfl)
                        exact lp_146 41 40 0 0 (r_dblL 40 0 (if k = 256 then 1 else 0) g) (by omega) (by omega) (by omega) (r_dblL_by hg8) rfl _ _ (hP.sub [0, 1, 2, 3] rfl) (hD.sub [0, 1, 2, 3] (by decide) rfl) hS ls (lv_sub hl [2, 3, 1, 0] rfl)
                    · skip
                      have c_84 : i < 40 := n_nle c_84 (by omega) (by omega)
                      obtain ⟨d, rfl⟩ : ∃ d' : Nat, d = d' + 1 := ⟨d - 1, by omega⟩
                      have hai := hg28 i
                      refine lv_iconst (v := nI 2) hx hb dM_quotient_87 (by decide) ?_
                      refine lv_aload_n hx hb dM_quotient_88 rfl (lv_at hl 0 rfl) ?_
                      refine va_get (D := D) (ci := 3) (v := .ref ac) (C := RM) (T := TM) (N := 12) hx hb hts iM_quotient_M hown hK hP 0 rfl rfl 10 (by decide) (hts (.fieldLink RM 36 "TreeDeskModel" "c" "[I") (by decide +kernel)) (fun _ h9 => h9) rfl dM_quotient_89 ?_
                      refine lv_iload hx hb dM_quotient_92 (lv_at hl 3 rfl) ?_
                      refine ar_ild (j := i) hx hb hK hP 3 0 rfl rfl dM_quotient_94 (by omega) (by omega) ?_
                      refine tp_i (y := nI (g2 i)) rfl ?_
                      refine lv_imul hx hb dM_quotient_95 ?_
                      refine tp_i (y := nI (2 * (g2 i))) (pk_mul _ _) ?_
                      refine lv_iload_n hx hb dM_quotient_96 rfl (lv_at hl 2 rfl) ?_
                      refine lv_iadd hx hb dM_quotient_97 ?_
                      refine tp_i (y := nI ((2 * (g2 i)) + cy)) (nI_add _ _) ?_
                      refine lv_istore (lv' := [(5, .int (nI ((2 * (g2 i)) + cy))), (0, .ref o), (2, .int (nI k)), (3, .int (nI cy)), (4, .int (nI i))]) hx hb dM_quotient_98 hl (by decide) rfl (fun ls hl => ?_)
                      refine lv_aload_n hx hb dM_quotient_100 rfl (lv_at hl 1 rfl) ?_
                      refine va_get (D := D) (ci := 3) (v := .ref ac) (C := RM) (T := TM) (N := 12) hx hb hts iM_quotient_M hown hK hP 0 rfl rfl 10 (by decide) (hts (.fieldLink RM 36 "TreeDeskModel" "c" "[I") (by decide +kernel)) (fun _ h9 => h9) rfl dM_quotient_101 ?_
                      refine lv_iload hx hb dM_quotient_104 (lv_at hl 4 rfl) ?_
                      refine lv_iload hx hb dM_quotient_106 (lv_at hl 0 rfl) ?_
                      refine lv_sipush (v := nI 256) hx hb dM_quotient_108 (by decide) ?_
                      refine lv_irem hx hb dM_quotient_111 (nI_ne0 (by omega) (by omega)) ?_
                      refine tp_i (y := nI (((2 * (g2 i)) + cy) % 256)) (pk_rem (by omega) (by omega) (by omega)) ?_
                      refine ar_ist (j := i) hx hb hK hP hD hS 3 0 rfl rfl dM_quotient_112 (by omega) (by omega) (fun H locs hP hD hS => ?_)
                      have hP : va_P D vwCl [(o, .inr (3, [.int (nI mo), .int (nI n), .ref aP, .ref aH, .ref aT, .ref aB, .ref aZ, .ref aS, .ref aa, .ref ab, .ref ac, .ref aR])), (aa, .inl (cI, 40, .inl (nF a9))), (ab, .inl (cI, 40, .inl (nF (r_inc α β)))), (ac, .inl (cI, 40, .inl (upd (nF g2) i (nI (((2 * (g2 i)) + cy) % 256)))))] H := hP
                      have hD : va_D A [(o, .inr (3, [.int (nI mo), .int (nI n), .ref aP, .ref aH, .ref aT, .ref aB, .ref aZ, .ref aS, .ref aa, .ref ab, .ref ac, .ref aR])), (aa, .inl (cI, 40, .inl (nF a9))), (ab, .inl (cI, 40, .inl (nF (r_inc α β)))), (ac, .inl (cI, 40, .inl (upd (nF g2) i (nI (((2 * (g2 i)) + cy) % 256)))))] := hD
                      have e_w112 : upd (nF g2) i (nI (((2 * (g2 i)) + cy) % 256)) = nF (updN g2 i ((2 * g2 i + cy) % 256)) := nF_u g2 i _
                      rw [e_w112] at hP hD
                      refine lv_iload hx hb dM_quotient_113 (lv_at hl 0 rfl) ?_
                      refine lv_sipush (v := nI 256) hx hb dM_quotient_115 (by decide) ?_
                      refine lv_idiv hx hb dM_quotient_118 (nI_ne0 (by omega) (by omega)) ?_
                      refine tp_i (y := nI (((2 * (g2 i)) + cy) / 256)) (pk_div (by omega) (by omega) (by omega)) ?_
                      refine lv_istore_n (lv' := [(3, .int (nI (((2 * (g2 i)) + cy) / 256))), (5, .int (nI ((2 * (g2 i)) + cy))), (0, .ref o), (2, .int (nI k)), (4, .int (nI i))]) hx hb dM_quotient_119 rfl hl (by decide) rfl (fun ls hl => ?_)
                      refine lv_iinc (v := nI (i + 1)) (lv' := [(4, .int (nI (i + 1))), (3, .int (nI (((2 * (g2 i)) + cy) / 256))), (5, .int (nI ((2 * (g2 i)) + cy))), (0, .ref o), (2, .int (nI k))]) hx hb dM_quotient_120 hl (k := 4) rfl (nI_add _ 1) (by decide) rfl (fun ls hl => ?_)
                      refine lv_goto (tgt := 80) hx hb dM_quotient_123 (by decide) ?_
                      exact ih_80 d (i + 1) ((2 * g2 i + cy) / 256) (updN g2 i ((2 * g2 i + cy) % 256)) (by omega) (by omega) (by omega) (by8_u hg28 (Nat.mod_lt _ (by omega))) hg2 _ _ (hP.sub [0, 1, 2, 3] rfl) (hD.sub [0, 1, 2, 3] (by decide) rfl) hS ls (lv_sub hl [3, 4, 1, 0] rfl)
                exact lp_80 41 40 0 0 g (by omega) (by omega) (by omega) hg8 (by rw [if_neg c_68]) _ _ (hP.sub [0, 1, 2, 3] rfl) (hD.sub [0, 1, 2, 3] (by decide) rfl) hS ls (lv_sub hl [2, 3, 1, 0] rfl)
              · skip
                have c_68 : k = 256 := n_eq c_68 (by omega) (by omega)
                refine lv_iconst (v := nI 1) hx hb dM_quotient_71 (by decide) ?_
                refine lv_goto (tgt := 76) hx hb dM_quotient_72 (by decide) ?_
                refine lv_istore_n (lv' := [(3, .int (nI 1)), (0, .ref o), (2, .int (nI k))]) hx hb dM_quotient_76 rfl hl (by decide) rfl (fun ls hl => ?_)
                refine lv_iconst (v := nI 0) hx hb dM_quotient_77 (by decide) ?_
                refine lv_istore (lv' := [(4, .int (nI 0)), (3, .int (nI 1)), (0, .ref o), (2, .int (nI k))]) hx hb dM_quotient_78 hl (by decide) rfl (fun ls hl => ?_)
                have lp_80 : ∀ (n_80 : Nat) (d i cy : Nat) (g2 : Nat → Nat), (d < n_80) → (i + d = 40) → (cy ≤ 1) → (by8 g2) → (r_dblL d i cy g2 = (r_dblL 40 0 (if k = 256 then 1 else 0) g)) → ∀ (H : Heap) (locs : List Loc), va_P D vwCl [(o, .inr (3, [.int (nI mo), .int (nI n), .ref aP, .ref aH, .ref aT, .ref aB, .ref aZ, .ref aS, .ref aa, .ref ab, .ref ac, .ref aR])), (aa, .inl (cI, 40, .inl (nF a9))), (ab, .inl (cI, 40, .inl (nF (r_inc α β)))), (ac, .inl (cI, 40, .inl (nF g2)))] H → va_D A [(o, .inr (3, [.int (nI mo), .int (nI n), .ref aP, .ref aH, .ref aT, .ref aB, .ref aZ, .ref aS, .ref aa, .ref ab, .ref ac, .ref aR])), (aa, .inl (cI, 40, .inl (nF a9))), (ab, .inl (cI, 40, .inl (nF (r_inc α β)))), (ac, .inl (cI, 40, .inl (nF g2)))] → va_S A s.heap H locs → ∀ (ls : Array Slot), lv_has ls 7 [(0, .ref o), (2, .int (nI k)), (3, .int (nI cy)), (4, .int (nI i))] → W p l e rm_k_quotient s m args below meth c H locs 0 0 Q (F0 m 80 ls []) := by
                  intro n_80
                  induction n_80 with
                  | zero => intro d i cy g2 hn2 hd hcy hg28 hg2 H locs hP hD hS ls hl; exact absurd hn2 (by omega)
                  | succ n_80 ih_80 =>
                    intro d i cy g2 hn2 hd hcy hg28 hg2 H locs hP hD hS ls hl
                    refine lv_iload hx hb dM_quotient_80 (lv_at hl 3 rfl) ?_
                    refine lv_bipush (v := nI 40) hx hb dM_quotient_82 (by decide) ?_
                    refine lv_icmp_ge (tgt := 126) hx hb dM_quotient_84 (by decide) (fun c_84 => ?_) (fun c_84 => ?_)
                    · skip
                      have c_84 : 40 ≤ i := n_le c_84 (by omega) (by omega)
                      have hd0 : d = 0 := by omega
                      subst hd0
                      have hgg : g2 = (r_dblL 40 0 (if k = 256 then 1 else 0) g) := hg2
                      subst hgg
                      refine lv_aload_n hx hb dM_quotient_126 rfl (lv_at hl 0 rfl) ?_
                      refine va_get (D := D) (ci := 3) (v := .ref ac) (C := RM) (T := TM) (N := 12) hx hb hts iM_quotient_M hown hK hP 0 rfl rfl 10 (by decide) (hts (.fieldLink RM 36 "TreeDeskModel" "c" "[I") (by decide +kernel)) (fun _ h9 => h9) rfl dM_quotient_127 ?_
                      refine lv_aload_n hx hb dM_quotient_130 rfl (lv_at hl 0 rfl) ?_
                      refine va_get (D := D) (ci := 3) (v := .ref ab) (C := RM) (T := TM) (N := 12) hx hb hts iM_quotient_M hown hK hP 0 rfl rfl 9 (by decide) (hts (.fieldLink RM 33 "TreeDeskModel" "b" "[I") (by decide +kernel)) (fun _ h9 => h9) rfl dM_quotient_131 ?_
                      refine ro_ki (va_runS (As := [.ref ac, .ref ab]) (rest := []) ⟨hx, hb, hml, hown, hts⟩ (k_compareRows l D cI cJ cZ ac ab (r_dblL 40 0 (if k = 256 then 1 else 0) g) (r_inc α β) (r_dblL_by hg8) (r_incL_by hβ8)) (va_cwS 2 hts gM_quotient_M_compareRows_72 rfl rfl rfl (by decide +kernel) ⟨Nat.le_of_ble_eq_true rfl, Nat.le_of_ble_eq_true rfl⟩) (ro_preS (hP.sub [3, 2] rfl) hK) rfl rfl hl.1 rfl (lv_room (Nat.le_of_ble_eq_true rfl)) dM_quotient_134 ⟨Nat.le_of_ble_eq_true rfl, Nat.le_of_ble_eq_true rfl⟩) ?_
                      refine lv_if_lt (tgt := 239) hx hb dM_quotient_137 (by decide) (fun c_137 => ?_) (fun c_137 => ?_)
                      · skip
                        refine lv_iinc (v := (nI k) + (-1)) (lv' := [(2, .int ((nI k) + (-1))), (0, .ref o), (3, .int (nI cy)), (4, .int (nI i))]) hx hb dM_quotient_239 hl (k := 1) rfl rfl (by decide) rfl (fun ls hl => ?_)
                        refine lv_goto (tgt := 60) hx hb dM_quotient_242 (by decide) ?_
                        exact ih_60 k ((nI k) + (-1)) a9 (r_dblL 40 0 (if k = 256 then 1 else 0) g) (by omega) (by omega) rfl (r_dblL_by hg8) (by rw [← hg, r_qL, if_pos c_137]) _ _ (hP.sub [0, 1, 2, 3] rfl) (hD.sub [0, 1, 2, 3] (by decide) rfl) hS ls (lv_sub hl [1, 0] rfl)
                      · skip
                        refine lv_iconst (v := nI 0) hx hb dM_quotient_140 (by decide) ?_
                        refine lv_istore (lv' := [(4, .int (nI 0)), (0, .ref o), (2, .int (nI k)), (3, .int (nI cy))]) hx hb dM_quotient_141 hl (by decide) rfl (fun ls hl => ?_)
                        refine lv_iconst (v := nI 0) hx hb dM_quotient_143 (by decide) ?_
                        refine lv_istore (lv' := [(5, .int (nI 0)), (4, .int (nI 0)), (0, .ref o), (2, .int (nI k)), (3, .int (nI cy))]) hx hb dM_quotient_144 hl (by decide) rfl (fun ls hl => ?_)
                        have lp_146 : ∀ (n_146 : Nat) (d i bo : Nat) (g3 : Nat → Nat), (d < n_146) → (i + d = 40) → (bo ≤ 1) → (by8 g3) → (r_subL (r_inc α β) d i bo g3 = r_subL (r_inc α β) 40 0 0 (r_dblL 40 0 (if k = 256 then 1 else 0) g)) → ∀ (H : Heap) (locs : List Loc), va_P D vwCl [(o, .inr (3, [.int (nI mo), .int (nI n), .ref aP, .ref aH, .ref aT, .ref aB, .ref aZ, .ref aS, .ref aa, .ref ab, .ref ac, .ref aR])), (aa, .inl (cI, 40, .inl (nF a9))), (ab, .inl (cI, 40, .inl (nF (r_inc α β)))), (ac, .inl (cI, 40, .inl (nF g3)))] H → va_D A [(o, .inr (3, [.int (nI mo), .int (nI n), .ref aP, .ref aH, .ref aT, .ref aB, .ref aZ, .ref aS, .ref aa, .ref ab, .ref ac, .ref aR])), (aa, .inl (cI, 40, .inl (nF a9))), (ab, .inl (cI, 40, .inl (nF (r_inc α β)))), (ac, .inl (cI, 40, .inl (nF g3)))] → va_S A s.heap H locs → ∀ (ls : Array Slot), lv_has ls 7 [(0, .ref o), (2, .int (nI k)), (4, .int (nI bo)), (5, .int (nI i))] → W p l e rm_k_quotient s m args below meth c H locs 0 0 Q (F0 m 146 ls []) := by
                          intro n_146
                          induction n_146 with
                          | zero => intro d i bo g3 hn3 hd hbo hg38 hg3 H locs hP hD hS ls hl; exact absurd hn3 (by omega)
                          | succ n_146 ih_146 =>
                            intro d i bo g3 hn3 hd hbo hg38 hg3 H locs hP hD hS ls hl
                            refine lv_iload hx hb dM_quotient_146 (lv_at hl 3 rfl) ?_
                            refine lv_bipush (v := nI 40) hx hb dM_quotient_148 (by decide) ?_
                            refine lv_icmp_ge (tgt := 214) hx hb dM_quotient_150 (by decide) (fun c_150 => ?_) (fun c_150 => ?_)
                            · skip
                              have c_150 : 40 ≤ i := n_le c_150 (by omega) (by omega)
                              have hd0 : d = 0 := by omega
                              subst hd0
                              have hgg : g3 = r_subL (r_inc α β) 40 0 0 (r_dblL 40 0 (if k = 256 then 1 else 0) g) := hg3
                              subst hgg
                              refine lv_aload_n hx hb dM_quotient_214 rfl (lv_at hl 0 rfl) ?_
                              refine va_get (D := D) (ci := 3) (v := .ref aa) (C := RM) (T := TM) (N := 12) hx hb hts iM_quotient_M hown hK hP 0 rfl rfl 8 (by decide) (hts (.fieldLink RM 30 "TreeDeskModel" "a" "[I") (by decide +kernel)) (fun _ h9 => h9) rfl dM_quotient_215 ?_
                              refine lv_iload_n hx hb dM_quotient_218 rfl (lv_at hl 1 rfl) ?_
                              refine lv_bipush (v := nI 8) hx hb dM_quotient_219 (by decide) ?_
                              refine lv_idiv hx hb dM_quotient_221 (nI_ne0 (by omega) (by omega)) ?_
                              refine tp_i (y := nI (k / 8)) (pk_div (by omega) (by omega) (by omega)) ?_
                              refine lv_aload_n hx hb dM_quotient_222 rfl (lv_at hl 0 rfl) ?_
                              refine va_get (D := D) (ci := 3) (v := .ref aa) (C := RM) (T := TM) (N := 12) hx hb hts iM_quotient_M hown hK hP 0 rfl rfl 8 (by decide) (hts (.fieldLink RM 30 "TreeDeskModel" "a" "[I") (by decide +kernel)) (fun _ h9 => h9) rfl dM_quotient_223 ?_
                              refine lv_iload_n hx hb dM_quotient_226 rfl (lv_at hl 1 rfl) ?_
                              refine lv_bipush (v := nI 8) hx hb dM_quotient_227 (by decide) ?_
                              refine lv_idiv hx hb dM_quotient_229 (nI_ne0 (by omega) (by omega)) ?_
                              refine tp_i (y := nI (k / 8)) (pk_div (by omega) (by omega) (by omega)) ?_
                              refine ar_ild (j := k / 8) hx hb hK hP 1 0 rfl rfl dM_quotient_230 (by omega) (by omega) ?_
                              refine tp_i (y := nI (a9 (k / 8))) rfl ?_
                              refine lv_iconst (v := nI 1) hx hb dM_quotient_231 (by decide) ?_
                              refine lv_iload_n hx hb dM_quotient_232 rfl (lv_at hl 1 rfl) ?_
                              refine lv_bipush (v := nI 8) hx hb dM_quotient_233 (by decide) ?_
                              refine lv_irem hx hb dM_quotient_235 (nI_ne0 (by omega) (by omega)) ?_
                              refine tp_i (y := nI (k % 8)) (pk_rem (by omega) (by omega) (by omega)) ?_
                              refine lv_ishl hx hb dM_quotient_236 ?_
                              refine tp_i (y := nI (2 ^ (k % 8))) (sh_1 (by omega)) ?_
                              refine lv_iadd hx hb dM_quotient_237 ?_
                              refine tp_i (y := nI ((a9 (k / 8)) + (2 ^ (k % 8)))) (nI_add _ _) ?_
                              refine ar_ist (j := k / 8) hx hb hK hP hD hS 1 0 rfl rfl dM_quotient_238 (by omega) (by omega) (fun H locs hP hD hS => ?_)
                              have hP : va_P D vwCl [(o, .inr (3, [.int (nI mo), .int (nI n), .ref aP, .ref aH, .ref aT, .ref aB, .ref aZ, .ref aS, .ref aa, .ref ab, .ref ac, .ref aR])), (aa, .inl (cI, 40, .inl (upd (nF a9) (k / 8) (nI ((a9 (k / 8)) + (2 ^ (k % 8))))))), (ab, .inl (cI, 40, .inl (nF (r_inc α β)))), (ac, .inl (cI, 40, .inl (nF (r_subL (r_inc α β) 40 0 0 (r_dblL 40 0 (if k = 256 then 1 else 0) g)))))] H := hP
                              have hD : va_D A [(o, .inr (3, [.int (nI mo), .int (nI n), .ref aP, .ref aH, .ref aT, .ref aB, .ref aZ, .ref aS, .ref aa, .ref ab, .ref ac, .ref aR])), (aa, .inl (cI, 40, .inl (upd (nF a9) (k / 8) (nI ((a9 (k / 8)) + (2 ^ (k % 8))))))), (ab, .inl (cI, 40, .inl (nF (r_inc α β)))), (ac, .inl (cI, 40, .inl (nF (r_subL (r_inc α β) 40 0 0 (r_dblL 40 0 (if k = 256 then 1 else 0) g)))))] := hD
                              have e_w238 : upd (nF a9) (k / 8) (nI ((a9 (k / 8)) + (2 ^ (k % 8)))) = nF (updN a9 (k / 8) (a9 (k / 8) + 2 ^ (k % 8))) := nF_u a9 _ _
                              rw [e_w238] at hP hD
                              refine lv_iinc (v := (nI k) + (-1)) (lv' := [(2, .int ((nI k) + (-1))), (0, .ref o), (4, .int (nI bo)), (5, .int (nI i))]) hx hb dM_quotient_239 hl (k := 1) rfl rfl (by decide) rfl (fun ls hl => ?_)
                              refine lv_goto (tgt := 60) hx hb dM_quotient_242 (by decide) ?_
                              exact ih_60 k ((nI k) + (-1)) (updN a9 (k / 8) (a9 (k / 8) + 2 ^ (k % 8))) (r_subL (r_inc α β) 40 0 0 (r_dblL 40 0 (if k = 256 then 1 else 0) g)) (by omega) (by omega) rfl (r_subL_by (r_dblL_by hg8)) (by rw [← hg, r_qL, if_neg c_137]) _ _ (hP.sub [0, 1, 2, 3] rfl) (hD.sub [0, 1, 2, 3] (by decide) rfl) hS ls (lv_sub hl [1, 0] rfl)
                            · skip
                              have c_150 : i < 40 := n_nle c_150 (by omega) (by omega)
                              obtain ⟨d, rfl⟩ : ∃ d' : Nat, d = d' + 1 := ⟨d - 1, by omega⟩
                              have hai := hg38 i
                              have hbi : r_inc α β i < 256 := r_incL_by hβ8 i
                              refine lv_aload_n hx hb dM_quotient_153 rfl (lv_at hl 0 rfl) ?_
                              refine va_get (D := D) (ci := 3) (v := .ref ac) (C := RM) (T := TM) (N := 12) hx hb hts iM_quotient_M hown hK hP 0 rfl rfl 10 (by decide) (hts (.fieldLink RM 36 "TreeDeskModel" "c" "[I") (by decide +kernel)) (fun _ h9 => h9) rfl dM_quotient_154 ?_
                              refine lv_iload hx hb dM_quotient_157 (lv_at hl 3 rfl) ?_
                              refine ar_ild (j := i) hx hb hK hP 3 0 rfl rfl dM_quotient_159 (by omega) (by omega) ?_
                              refine tp_i (y := nI (g3 i)) rfl ?_
                              refine lv_aload_n hx hb dM_quotient_160 rfl (lv_at hl 0 rfl) ?_
                              refine va_get (D := D) (ci := 3) (v := .ref ab) (C := RM) (T := TM) (N := 12) hx hb hts iM_quotient_M hown hK hP 0 rfl rfl 9 (by decide) (hts (.fieldLink RM 33 "TreeDeskModel" "b" "[I") (by decide +kernel)) (fun _ h9 => h9) rfl dM_quotient_161 ?_
                              refine lv_iload hx hb dM_quotient_164 (lv_at hl 3 rfl) ?_
                              refine ar_ild (j := i) hx hb hK hP 2 0 rfl rfl dM_quotient_166 (by omega) (by omega) ?_
                              refine tp_i (y := nI (r_inc α β i)) rfl ?_
                              refine lv_isub hx hb dM_quotient_167 ?_
                              refine lv_iload hx hb dM_quotient_168 (lv_at hl 2 rfl) ?_
                              refine lv_isub hx hb dM_quotient_170 ?_
                              refine lv_istore (lv' := [(6, .int (((nI (g3 i)) - (nI (r_inc α β i))) - (nI bo))), (0, .ref o), (2, .int (nI k)), (4, .int (nI bo)), (5, .int (nI i))]) hx hb dM_quotient_171 hl (by decide) rfl (fun ls hl => ?_)
                              refine lv_aload_n hx hb dM_quotient_173 rfl (lv_at hl 1 rfl) ?_
                              refine va_get (D := D) (ci := 3) (v := .ref ac) (C := RM) (T := TM) (N := 12) hx hb hts iM_quotient_M hown hK hP 0 rfl rfl 10 (by decide) (hts (.fieldLink RM 36 "TreeDeskModel" "c" "[I") (by decide +kernel)) (fun _ h9 => h9) rfl dM_quotient_174 ?_
                              refine lv_iload hx hb dM_quotient_177 (lv_at hl 4 rfl) ?_
                              refine lv_iload hx hb dM_quotient_179 (lv_at hl 0 rfl) ?_
                              refine lv_if_ge (tgt := 193) hx hb dM_quotient_181 (by decide) (fun c_181 => ?_) (fun c_181 => ?_)
                              · skip
                                have hge : r_inc α β i + bo ≤ g3 i := sb3_ge c_181 (by omega) (by omega) (by omega)
                                refine lv_iload hx hb dM_quotient_193 (lv_at hl 0 rfl) ?_
                                refine tp_i (y := nI (g3 i - r_inc α β i - bo)) (sb3_v hge) ?_
                                refine ar_ist (j := i) hx hb hK hP hD hS 3 0 rfl rfl dM_quotient_195 (by omega) (by omega) (fun H locs hP hD hS => ?_)
                                have hP : va_P D vwCl [(o, .inr (3, [.int (nI mo), .int (nI n), .ref aP, .ref aH, .ref aT, .ref aB, .ref aZ, .ref aS, .ref aa, .ref ab, .ref ac, .ref aR])), (aa, .inl (cI, 40, .inl (nF a9))), (ab, .inl (cI, 40, .inl (nF (r_inc α β)))), (ac, .inl (cI, 40, .inl (upd (nF g3) i (nI (g3 i - r_inc α β i - bo)))))] H := hP
                                have hD : va_D A [(o, .inr (3, [.int (nI mo), .int (nI n), .ref aP, .ref aH, .ref aT, .ref aB, .ref aZ, .ref aS, .ref aa, .ref ab, .ref ac, .ref aR])), (aa, .inl (cI, 40, .inl (nF a9))), (ab, .inl (cI, 40, .inl (nF (r_inc α β)))), (ac, .inl (cI, 40, .inl (upd (nF g3) i (nI (g3 i - r_inc α β i - bo)))))] := hD
                                have e_w195 : upd (nF g3) i (nI (g3 i - r_inc α β i - bo)) = nF (updN g3 i (g3 i - r_inc α β i - bo)) := nF_u g3 i _
                                rw [e_w195] at hP hD
                                refine lv_iload hx hb dM_quotient_196 (lv_at hl 0 rfl) ?_
                                refine lv_if_ge (tgt := 205) hx hb dM_quotient_198 (by decide) (fun c_198 => ?_) (fun c_198 => ?_)
                                · skip
                                  refine lv_iconst (v := nI 0) hx hb dM_quotient_205 (by decide) ?_
                                  refine lv_istore (lv' := [(4, .int (nI 0)), (6, .int (((nI (g3 i)) - (nI (r_inc α β i))) - (nI bo))), (0, .ref o), (2, .int (nI k)), (5, .int (nI i))]) hx hb dM_quotient_206 hl (by decide) rfl (fun ls hl => ?_)
                                  refine lv_iinc (v := nI (i + 1)) (lv' := [(5, .int (nI (i + 1))), (4, .int (nI 0)), (6, .int (((nI (g3 i)) - (nI (r_inc α β i))) - (nI bo))), (0, .ref o), (2, .int (nI k))]) hx hb dM_quotient_208 hl (k := 4) rfl (nI_add _ 1) (by decide) rfl (fun ls hl => ?_)
                                  refine lv_goto (tgt := 146) hx hb dM_quotient_211 (by decide) ?_
                                  exact ih_146 d (i + 1) 0 (updN g3 i (g3 i - r_inc α β i - bo)) (by omega) (by omega) (by omega) (by8_u hg38 (by omega)) (by rw [← hg3, r_subL, if_pos hge]) _ _ (hP.sub [0, 1, 2, 3] rfl) (hD.sub [0, 1, 2, 3] (by decide) rfl) hS ls (lv_sub hl [3, 4, 1, 0] rfl)
                                · skip
                                  exact absurd c_181 c_198
                              · skip
                                have hge : g3 i < r_inc α β i + bo := sb3_lt c_181 (by omega) (by omega) (by omega)
                                refine lv_iload hx hb dM_quotient_184 (lv_at hl 0 rfl) ?_
                                refine lv_sipush (v := nI 256) hx hb dM_quotient_186 (by decide) ?_
                                refine lv_iadd hx hb dM_quotient_189 ?_
                                refine tp_i (y := nI (g3 i + 256 - r_inc α β i - bo)) (sb3_w (by omega)) ?_
                                refine lv_goto (tgt := 195) hx hb dM_quotient_190 (by decide) ?_
                                refine ar_ist (j := i) hx hb hK hP hD hS 3 0 rfl rfl dM_quotient_195 (by omega) (by omega) (fun H locs hP hD hS => ?_)
                                have hP : va_P D vwCl [(o, .inr (3, [.int (nI mo), .int (nI n), .ref aP, .ref aH, .ref aT, .ref aB, .ref aZ, .ref aS, .ref aa, .ref ab, .ref ac, .ref aR])), (aa, .inl (cI, 40, .inl (nF a9))), (ab, .inl (cI, 40, .inl (nF (r_inc α β)))), (ac, .inl (cI, 40, .inl (upd (nF g3) i (nI (g3 i + 256 - r_inc α β i - bo)))))] H := hP
                                have hD : va_D A [(o, .inr (3, [.int (nI mo), .int (nI n), .ref aP, .ref aH, .ref aT, .ref aB, .ref aZ, .ref aS, .ref aa, .ref ab, .ref ac, .ref aR])), (aa, .inl (cI, 40, .inl (nF a9))), (ab, .inl (cI, 40, .inl (nF (r_inc α β)))), (ac, .inl (cI, 40, .inl (upd (nF g3) i (nI (g3 i + 256 - r_inc α β i - bo)))))] := hD
                                have e_w195 : upd (nF g3) i (nI (g3 i + 256 - r_inc α β i - bo)) = nF (updN g3 i (g3 i + 256 - r_inc α β i - bo)) := nF_u g3 i _
                                rw [e_w195] at hP hD
                                refine lv_iload hx hb dM_quotient_196 (lv_at hl 0 rfl) ?_
                                refine lv_if_ge (tgt := 205) hx hb dM_quotient_198 (by decide) (fun c_198 => ?_) (fun c_198 => ?_)
                                · skip
                                  exact absurd c_198 c_181
                                · skip
                                  refine lv_iconst (v := nI 1) hx hb dM_quotient_201 (by decide) ?_
                                  refine lv_goto (tgt := 206) hx hb dM_quotient_202 (by decide) ?_
                                  refine lv_istore (lv' := [(4, .int (nI 1)), (6, .int (((nI (g3 i)) - (nI (r_inc α β i))) - (nI bo))), (0, .ref o), (2, .int (nI k)), (5, .int (nI i))]) hx hb dM_quotient_206 hl (by decide) rfl (fun ls hl => ?_)
                                  refine lv_iinc (v := nI (i + 1)) (lv' := [(5, .int (nI (i + 1))), (4, .int (nI 1)), (6, .int (((nI (g3 i)) - (nI (r_inc α β i))) - (nI bo))), (0, .ref o), (2, .int (nI k))]) hx hb dM_quotient_208 hl (k := 4) rfl (nI_add _ 1) (by decide) rfl (fun ls hl => ?_)
                                  refine lv_goto (tgt := 146) hx hb dM_quotient_211 (by decide) ?_
                                  exact ih_146 d (i + 1) 1 (updN g3 i (g3 i + 256 - r_inc α β i - bo)) (by omega) (by omega) (by omega) (by8_u hg38 (by omega)) (by rw [← hg3, r_subL, if_neg (by omega)]) _ _ (hP.sub [0, 1, 2, 3] rfl) (hD.sub [0, 1, 2, 3] (by decide) rfl) hS ls (lv_sub hl [3, 4, 1, 0] rfl)
                        exact lp_146 41 40 0 0 (r_dblL 40 0 (if k = 256 then 1 else 0) g) (by omega) (by omega) (by omega) (r_dblL_by hg8) rfl _ _ (hP.sub [0, 1, 2, 3] rfl) (hD.sub [0, 1, 2, 3] (by decide) rfl) hS ls (lv_sub hl [2, 3, 1, 0] rfl)
                    · skip
                      have c_84 : i < 40 := n_nle c_84 (by omega) (by omega)
                      obtain ⟨d, rfl⟩ : ∃ d' : Nat, d = d' + 1 := ⟨d - 1, by omega⟩
                      have hai := hg28 i
                      refine lv_iconst (v := nI 2) hx hb dM_quotient_87 (by decide) ?_
                      refine lv_aload_n hx hb dM_quotient_88 rfl (lv_at hl 0 rfl) ?_
                      refine va_get (D := D) (ci := 3) (v := .ref ac) (C := RM) (T := TM) (N := 12) hx hb hts iM_quotient_M hown hK hP 0 rfl rfl 10 (by decide) (hts (.fieldLink RM 36 "TreeDeskModel" "c" "[I") (by decide +kernel)) (fun _ h9 => h9) rfl dM_quotient_89 ?_
                      refine lv_iload hx hb dM_quotient_92 (lv_at hl 3 rfl) ?_
                      refine ar_ild (j := i) hx hb hK hP 3 0 rfl rfl dM_quotient_94 (by omega) (by omega) ?_
                      refine tp_i (y := nI (g2 i)) rfl ?_
                      refine lv_imul hx hb dM_quotient_95 ?_
                      refine tp_i (y := nI (2 * (g2 i))) (pk_mul _ _) ?_
                      refine lv_iload_n hx hb dM_quotient_96 rfl (lv_at hl 2 rfl) ?_
                      refine lv_iadd hx hb dM_quotient_97 ?_
                      refine tp_i (y := nI ((2 * (g2 i)) + cy)) (nI_add _ _) ?_
                      refine lv_istore (lv' := [(5, .int (nI ((2 * (g2 i)) + cy))), (0, .ref o), (2, .int (nI k)), (3, .int (nI cy)), (4, .int (nI i))]) hx hb dM_quotient_98 hl (by decide) rfl (fun ls hl => ?_)
                      refine lv_aload_n hx hb dM_quotient_100 rfl (lv_at hl 1 rfl) ?_
                      refine va_get (D := D) (ci := 3) (v := .ref ac) (C := RM) (T := TM) (N := 12) hx hb hts iM_quotient_M hown hK hP 0 rfl rfl 10 (by decide) (hts (.fieldLink RM 36 "TreeDeskModel" "c" "[I") (by decide +kernel)) (fun _ h9 => h9) rfl dM_quotient_101 ?_
                      refine lv_iload hx hb dM_quotient_104 (lv_at hl 4 rfl) ?_
                      refine lv_iload hx hb dM_quotient_106 (lv_at hl 0 rfl) ?_
                      refine lv_sipush (v := nI 256) hx hb dM_quotient_108 (by decide) ?_
                      refine lv_irem hx hb dM_quotient_111 (nI_ne0 (by omega) (by omega)) ?_
                      refine tp_i (y := nI (((2 * (g2 i)) + cy) % 256)) (pk_rem (by omega) (by omega) (by omega)) ?_
                      refine ar_ist (j := i) hx hb hK hP hD hS 3 0 rfl rfl dM_quotient_112 (by omega) (by omega) (fun H locs hP hD hS => ?_)
                      have hP : va_P D vwCl [(o, .inr (3, [.int (nI mo), .int (nI n), .ref aP, .ref aH, .ref aT, .ref aB, .ref aZ, .ref aS, .ref aa, .ref ab, .ref ac, .ref aR])), (aa, .inl (cI, 40, .inl (nF a9))), (ab, .inl (cI, 40, .inl (nF (r_inc α β)))), (ac, .inl (cI, 40, .inl (upd (nF g2) i (nI (((2 * (g2 i)) + cy) % 256)))))] H := hP
                      have hD : va_D A [(o, .inr (3, [.int (nI mo), .int (nI n), .ref aP, .ref aH, .ref aT, .ref aB, .ref aZ, .ref aS, .ref aa, .ref ab, .ref ac, .ref aR])), (aa, .inl (cI, 40, .inl (nF a9))), (ab, .inl (cI, 40, .inl (nF (r_inc α β)))), (ac, .inl (cI, 40, .inl (upd (nF g2) i (nI (((2 * (g2 i)) + cy) % 256)))))] := hD
                      have e_w112 : upd (nF g2) i (nI (((2 * (g2 i)) + cy) % 256)) = nF (updN g2 i ((2 * g2 i + cy) % 256)) := nF_u g2 i _
                      rw [e_w112] at hP hD
                      refine lv_iload hx hb dM_quotient_113 (lv_at hl 0 rfl) ?_
                      refine lv_sipush (v := nI 256) hx hb dM_quotient_115 (by decide) ?_
                      refine lv_idiv hx hb dM_quotient_118 (nI_ne0 (by omega) (by omega)) ?_
                      refine tp_i (y := nI (((2 * (g2 i)) + cy) / 256)) (pk_div (by omega) (by omega) (by omega)) ?_
                      refine lv_istore_n (lv' := [(3, .int (nI (((2 * (g2 i)) + cy) / 256))), (5, .int (nI ((2 * (g2 i)) + cy))), (0, .ref o), (2, .int (nI k)), (4, .int (nI i))]) hx hb dM_quotient_119 rfl hl (by decide) rfl (fun ls hl => ?_)
                      refine lv_iinc (v := nI (i + 1)) (lv' := [(4, .int (nI (i + 1))), (3, .int (nI (((2 * (g2 i)) + cy) / 256))), (5, .int (nI ((2 * (g2 i)) + cy))), (0, .ref o), (2, .int (nI k))]) hx hb dM_quotient_120 hl (k := 4) rfl (nI_add _ 1) (by decide) rfl (fun ls hl => ?_)
                      refine lv_goto (tgt := 80) hx hb dM_quotient_123 (by decide) ?_
                      exact ih_80 d (i + 1) ((2 * g2 i + cy) / 256) (updN g2 i ((2 * g2 i + cy) % 256)) (by omega) (by omega) (by omega) (by8_u hg28 (Nat.mod_lt _ (by omega))) hg2 _ _ (hP.sub [0, 1, 2, 3] rfl) (hD.sub [0, 1, 2, 3] (by decide) rfl) hS ls (lv_sub hl [3, 4, 1, 0] rfl)
                exact lp_80 41 40 0 1 g (by omega) (by omega) (by omega) hg8 (by rw [if_pos c_68]) _ _ (hP.sub [0, 1, 2, 3] rfl) (hD.sub [0, 1, 2, 3] (by decide) rfl) hS ls (lv_sub hl [2, 3, 1, 0] rfl)
        exact lp_60 258 257 (nI 256) (zN α 40) (zN γ 40) (by omega) (by omega) (pk_m1 256).symm (by8_z hγ8) rfl _ _ (hP.sub [0, 2, 1, 3] rfl) (hD.sub [0, 2, 1, 3] (by decide) rfl) hS ls (lv_sub hl [1, 0] rfl)
      · skip
        have c_7 : i < 40 := n_nle c_7 (by omega) (by omega)
        obtain ⟨d, rfl⟩ : ∃ d' : Nat, d = d' + 1 := ⟨d - 1, by omega⟩
        have hai := hα8 i
        refine lv_aload_n hx hb dM_quotient_10 rfl (lv_at hl 0 rfl) ?_
        refine va_get (D := D) (ci := 3) (v := .ref aa) (C := RM) (T := TM) (N := 12) hx hb hts iM_quotient_M hown hK hP 0 rfl rfl 8 (by decide) (hts (.fieldLink RM 30 "TreeDeskModel" "a" "[I") (by decide +kernel)) (fun _ h9 => h9) rfl dM_quotient_11 ?_
        refine lv_iload_n hx hb dM_quotient_14 rfl (lv_at hl 2 rfl) ?_
        refine ar_ild (j := i) hx hb hK hP 1 0 rfl rfl dM_quotient_15 (by omega) (by omega) ?_
        refine tp_i (y := nI (α i)) rfl ?_
        refine lv_iload_n hx hb dM_quotient_16 rfl (lv_at hl 1 rfl) ?_
        refine lv_iadd hx hb dM_quotient_17 ?_
        refine tp_i (y := nI ((α i) + cy)) (nI_add _ _) ?_
        refine lv_istore_n (lv' := [(3, .int (nI ((α i) + cy))), (0, .ref o), (1, .int (nI cy)), (2, .int (nI i))]) hx hb dM_quotient_18 rfl hl (by decide) rfl (fun ls hl => ?_)
        refine lv_aload_n hx hb dM_quotient_19 rfl (lv_at hl 1 rfl) ?_
        refine va_get (D := D) (ci := 3) (v := .ref ab) (C := RM) (T := TM) (N := 12) hx hb hts iM_quotient_M hown hK hP 0 rfl rfl 9 (by decide) (hts (.fieldLink RM 33 "TreeDeskModel" "b" "[I") (by decide +kernel)) (fun _ h9 => h9) rfl dM_quotient_20 ?_
        refine lv_iload_n hx hb dM_quotient_23 rfl (lv_at hl 3 rfl) ?_
        refine lv_iload_n hx hb dM_quotient_24 rfl (lv_at hl 0 rfl) ?_
        refine lv_sipush (v := nI 256) hx hb dM_quotient_25 (by decide) ?_
        refine lv_irem hx hb dM_quotient_28 (nI_ne0 (by omega) (by omega)) ?_
        refine tp_i (y := nI (((α i) + cy) % 256)) (pk_rem (by omega) (by omega) (by omega)) ?_
        refine ar_ist (j := i) hx hb hK hP hD hS 2 0 rfl rfl dM_quotient_29 (by omega) (by omega) (fun H locs hP hD hS => ?_)
        have hP : va_P D vwCl [(o, .inr (3, [.int (nI mo), .int (nI n), .ref aP, .ref aH, .ref aT, .ref aB, .ref aZ, .ref aS, .ref aa, .ref ab, .ref ac, .ref aR])), (aa, .inl (cI, 40, .inl (nF α))), (ab, .inl (cI, 40, .inl (upd (nF b9) i (nI (((α i) + cy) % 256))))), (ac, .inl (cI, 40, .inl (nF γ)))] H := hP
        have hD : va_D A [(o, .inr (3, [.int (nI mo), .int (nI n), .ref aP, .ref aH, .ref aT, .ref aB, .ref aZ, .ref aS, .ref aa, .ref ab, .ref ac, .ref aR])), (aa, .inl (cI, 40, .inl (nF α))), (ab, .inl (cI, 40, .inl (upd (nF b9) i (nI (((α i) + cy) % 256))))), (ac, .inl (cI, 40, .inl (nF γ)))] := hD
        have e_w29 : upd (nF b9) i (nI (((α i) + cy) % 256)) = nF (updN b9 i ((α i + cy) % 256)) := nF_u b9 i _
        rw [e_w29] at hP hD
        refine lv_iload_n hx hb dM_quotient_30 rfl (lv_at hl 0 rfl) ?_
        refine lv_sipush (v := nI 256) hx hb dM_quotient_31 (by decide) ?_
        refine lv_idiv hx hb dM_quotient_34 (nI_ne0 (by omega) (by omega)) ?_
        refine tp_i (y := nI (((α i) + cy) / 256)) (pk_div (by omega) (by omega) (by omega)) ?_
        refine lv_istore_n (lv' := [(1, .int (nI (((α i) + cy) / 256))), (3, .int (nI ((α i) + cy))), (0, .ref o), (2, .int (nI i))]) hx hb dM_quotient_35 rfl hl (by decide) rfl (fun ls hl => ?_)
        refine lv_iinc (v := nI (i + 1)) (lv' := [(2, .int (nI (i + 1))), (1, .int (nI (((α i) + cy) / 256))), (3, .int (nI ((α i) + cy))), (0, .ref o)]) hx hb dM_quotient_36 hl (k := 3) rfl (nI_add _ 1) (by decide) rfl (fun ls hl => ?_)
        refine lv_goto (tgt := 4) hx hb dM_quotient_39 (by decide) ?_
        exact ih_4 d (i + 1) ((α i + cy) / 256) (updN b9 i ((α i + cy) % 256)) (by omega) (by omega) (by omega) hg _ _ (hP.sub [0, 1, 2, 3] rfl) (hD.sub [0, 1, 2, 3] (by decide) rfl) hS ls (lv_sub hl [3, 1, 0] rfl)
  exact lp_4 41 40 0 1 β (by omega) (by omega) (by omega) rfl _ _ (hP.sub [0, 1, 2, 3] rfl) (hD.sub [0, 1, 2, 3] (by decide) rfl) hS ls (lv_sub hl [2, 1, 0] rfl)

abbrev rm_k_scale : Room := { frames := 0, cells := 0, slots := 0, locals := 0 }
set_option maxRecDepth 100000 in
set_option maxHeartbeats 4000000 in
theorem k_scale (l : Launch) (D : va_G) (cI cJ cZ : ClassId) (o : Nat) (mo : Nat) (n : Nat) (aP : Nat) (aH : Nat) (aT : Nat) (aB : Nat) (aZ : Nat) (aS : Nat) (aa : Nat) (ab : Nat) (ac : Nat) (aR : Nat) (α : Nat → Nat) (t : Nat) (q : Nat) (hα8 : by8 α) (ht : t ≤ 19200) (hq0 : 0 < q) (hq : q ≤ 4800) : rw_C l yM_scale wM_scale rm_k_scale D vwCl (gT cI cJ cZ) [.ref o, .long (lN t), .long (lN q)] [(o, .inr (3, [.int (nI mo), .int (nI n), .ref aP, .ref aH, .ref aT, .ref aB, .ref aZ, .ref aS, .ref aa, .ref ab, .ref ac, .ref aR])), (aa, .inl (cI, 40, .inl (nF α)))] (fun v9 w9 => v9 = none ∧ w9 = [(o, .inr (3, [.int (nI mo), .int (nI n), .ref aP, .ref aH, .ref aT, .ref aB, .ref aZ, .ref aS, .ref aa, .ref ab, .ref ac, .ref aR])), (aa, .inl (cI, 40, .inl (nF (r_scale t q α))))]) 0 0 := by
  refine rw_of (cc := cM_scale) (maxL := 12) (ret := none) (by decide) rfl (Nat.le_of_ble_eq_true rfl) ?_
  intro p e s m args below meth c Q A ls hx hb hr hml hown hts hlocks hin hK hP hD hA hl hQ
  have hS : va_S A s.heap s.heap [] := va_S.rf
  have hl : lv_has ls 12 [(0, .ref o), (1, .long (lN t)), (3, .long (lN q))] := hl
  have hown : s.vm.findClass RM = some m.cls := hown
  obtain ⟨H, hHe⟩ : ∃ H : Heap, H = s.heap := ⟨_, rfl⟩
  rw [← hHe] at hP
  have hS : va_S A s.heap H [] := by rw [hHe]; exact va_S.rf
  suffices h9 : W p l e rm_k_scale s m args below meth c H [] 0 0 Q (F0 m 0 ls []) by rw [hHe] at h9; exact h9
  clear hHe
  refine lv_lconst (v := lN 0) hx hb dM_scale_0 (by decide) ?_
  refine lv_lstore (lv' := [(5, .long (lN 0)), (0, .ref o), (1, .long (lN t)), (3, .long (lN q))]) hx hb dM_scale_1 hl (by decide) rfl (fun ls hl => ?_)
  refine lv_iconst (v := nI 0) hx hb dM_scale_3 (by decide) ?_
  refine lv_istore (lv' := [(7, .int (nI 0)), (5, .long (lN 0)), (0, .ref o), (1, .long (lN t)), (3, .long (lN q))]) hx hb dM_scale_4 hl (by decide) rfl (fun ls hl => ?_)
  have lp_6 : ∀ (n_6 : Nat) (d i cy : Nat) (f : Nat → Nat), (d < n_6) → (i + d = 40) → (cy ≤ 19200) → (by8 f) → (r_mulL t d i cy f = r_mulL t 40 0 0 α) → ∀ (H : Heap) (locs : List Loc), va_P D vwCl [(o, .inr (3, [.int (nI mo), .int (nI n), .ref aP, .ref aH, .ref aT, .ref aB, .ref aZ, .ref aS, .ref aa, .ref ab, .ref ac, .ref aR])), (aa, .inl (cI, 40, .inl (nF f)))] H → va_D A [(o, .inr (3, [.int (nI mo), .int (nI n), .ref aP, .ref aH, .ref aT, .ref aB, .ref aZ, .ref aS, .ref aa, .ref ab, .ref ac, .ref aR])), (aa, .inl (cI, 40, .inl (nF f)))] → va_S A s.heap H locs → ∀ (ls : Array Slot), lv_has ls 12 [(0, .ref o), (1, .long (lN t)), (3, .long (lN q)), (5, .long (lN cy)), (7, .int (nI i))] → W p l e rm_k_scale s m args below meth c H locs 0 0 Q (F0 m 6 ls []) := by
    intro n_6
    induction n_6 with
    | zero => intro d i cy f hn hd hcy hf8 hg H locs hP hD hS ls hl; exact absurd hn (by omega)
    | succ n_6 ih_6 =>
      intro d i cy f hn hd hcy hf8 hg H locs hP hD hS ls hl
      refine lv_iload hx hb dM_scale_6 (lv_at hl 4 rfl) ?_
      refine lv_bipush (v := nI 40) hx hb dM_scale_8 (by decide) ?_
      refine lv_icmp_ge (tgt := 56) hx hb dM_scale_10 (by decide) (fun c_10 => ?_) (fun c_10 => ?_)
      · skip
        have c_10 : 40 ≤ i := n_le c_10 (by omega) (by omega)
        have hd0 : d = 0 := by omega
        subst hd0
        have hff : f = r_mulL t 40 0 0 α := hg
        subst hff
        refine lv_lconst (v := lN 0) hx hb dM_scale_56 (by decide) ?_
        refine lv_lstore (lv' := [(7, .long (lN 0)), (0, .ref o), (1, .long (lN t)), (3, .long (lN q)), (5, .long (lN cy))]) hx hb dM_scale_57 hl (by decide) rfl (fun ls hl => ?_)
        refine lv_bipush (v := nI 39) hx hb dM_scale_59 (by decide) ?_
        refine lv_istore (lv' := [(9, .int (nI 39)), (7, .long (lN 0)), (0, .ref o), (1, .long (lN t)), (3, .long (lN q)), (5, .long (lN cy))]) hx hb dM_scale_61 hl (by decide) rfl (fun ls hl => ?_)
        have lp_63 : ∀ (n_63 : Nat) (K : Nat) (i : Int32) (r : Nat) (f : Nat → Nat), (K < n_63) → (K ≤ 40) → (i = nI K + (-1)) → (r < q) → (by8 f) → (r_divL q K r f = r_scale t q α) → ∀ (H : Heap) (locs : List Loc), va_P D vwCl [(o, .inr (3, [.int (nI mo), .int (nI n), .ref aP, .ref aH, .ref aT, .ref aB, .ref aZ, .ref aS, .ref aa, .ref ab, .ref ac, .ref aR])), (aa, .inl (cI, 40, .inl (nF f)))] H → va_D A [(o, .inr (3, [.int (nI mo), .int (nI n), .ref aP, .ref aH, .ref aT, .ref aB, .ref aZ, .ref aS, .ref aa, .ref ab, .ref ac, .ref aR])), (aa, .inl (cI, 40, .inl (nF f)))] → va_S A s.heap H locs → ∀ (ls : Array Slot), lv_has ls 12 [(0, .ref o), (3, .long (lN q)), (7, .long (lN r)), (9, .int i)] → W p l e rm_k_scale s m args below meth c H locs 0 0 Q (F0 m 63 ls []) := by
          intro n_63
          induction n_63 with
          | zero => intro K i r f hn hKK hi hrq hf8 hg H locs hP hD hS ls hl; exact absurd hn (by omega)
          | succ n_63 ih_63 =>
            intro K i r f hn hKK hi hrq hf8 hg H locs hP hD hS ls hl
            refine lv_iload hx hb dM_scale_63 (lv_at hl 3 rfl) ?_
            refine lv_if_lt (tgt := 109) hx hb dM_scale_65 (by decide) (fun c_65 => ?_) (fun c_65 => ?_)
            · skip
              have hk0 : K = 0 := dn_0 hi c_65 (by omega)
              subst hk0
              exact rw_vret (w := [(o, .inr (3, [.int (nI mo), .int (nI n), .ref aP, .ref aH, .ref aT, .ref aB, .ref aZ, .ref aS, .ref aa, .ref ab, .ref ac, .ref aR])), (aa, .inl (cI, 40, .inl (nF f)))]) hQ hx hb hr hlocks dM_scale_109 (hP.sub [0, 1] rfl) (hD.sub [0, 1] (by decide) rfl) hS ⟨rfl, by rw [show r_scale t q α = f from hg.symm]⟩
            · skip
              obtain ⟨j, rfl, rfl⟩ := dn_s hi c_65
              have hfj := hf8 j
              have hdv : (r * 256 + f j) / q < 256 := by rw [Nat.div_lt_iff_lt_mul hq0]; omega
              refine lv_lload hx hb dM_scale_68 (lv_at hl 2 rfl) ?_
              refine lv_ldc2 (v := 256) hx hb hown (hts (.constantLong RM 76 256) (by decide +kernel)) dM_scale_70 ?_
              refine tp_l (y := lN 256) (by decide) ?_
              refine lv_lmul hx hb dM_scale_73 ?_
              refine tp_l (y := lN (r * 256)) (lN_mul _ _) ?_
              refine lv_aload_n hx hb dM_scale_74 rfl (lv_at hl 0 rfl) ?_
              refine va_get (D := D) (ci := 3) (v := .ref aa) (C := RM) (T := TM) (N := 12) hx hb hts iM_scale_M hown hK hP 0 rfl rfl 8 (by decide) (hts (.fieldLink RM 30 "TreeDeskModel" "a" "[I") (by decide +kernel)) (fun _ h9 => h9) rfl dM_scale_75 ?_
              refine lv_iload hx hb dM_scale_78 (lv_at hl 3 rfl) ?_
              refine ar_ild (j := j) hx hb hK hP 1 0 rfl rfl dM_scale_80 (by omega) (by omega) ?_
              refine tp_i (y := nI (f j)) rfl ?_
              refine lv_i2l (v := lN (f j)) hx hb dM_scale_81 (nI_l (by omega)) ?_
              refine lv_ladd hx hb dM_scale_82 ?_
              refine tp_l (y := lN ((r * 256) + (f j))) (lN_add _ _) ?_
              refine lv_lstore (lv' := [(10, .long (lN ((r * 256) + (f j)))), (0, .ref o), (3, .long (lN q)), (7, .long (lN r)), (9, .int (nI j))]) hx hb dM_scale_83 hl (by decide) rfl (fun ls hl => ?_)
              refine lv_aload_n hx hb dM_scale_85 rfl (lv_at hl 1 rfl) ?_
              refine va_get (D := D) (ci := 3) (v := .ref aa) (C := RM) (T := TM) (N := 12) hx hb hts iM_scale_M hown hK hP 0 rfl rfl 8 (by decide) (hts (.fieldLink RM 30 "TreeDeskModel" "a" "[I") (by decide +kernel)) (fun _ h9 => h9) rfl dM_scale_86 ?_
              refine lv_iload hx hb dM_scale_89 (lv_at hl 4 rfl) ?_
              refine lv_lload hx hb dM_scale_91 (lv_at hl 0 rfl) ?_
              refine lv_lload_n hx hb dM_scale_93 rfl (lv_at hl 2 rfl) ?_
              refine lv_ldiv hx hb dM_scale_94 (l_ne0 (by omega) (by omega)) ?_
              refine tp_l (y := lN (((r * 256) + (f j)) / q)) (pk_lDiv (by omega) (by omega) (by omega)) ?_
              refine lv_l2i (v := nI (((r * 256) + (f j)) / q)) hx hb dM_scale_95 (lN_i _) ?_
              refine ar_ist (j := j) hx hb hK hP hD hS 1 0 rfl rfl dM_scale_96 (by omega) (by omega) (fun H locs hP hD hS => ?_)
              have hP : va_P D vwCl [(o, .inr (3, [.int (nI mo), .int (nI n), .ref aP, .ref aH, .ref aT, .ref aB, .ref aZ, .ref aS, .ref aa, .ref ab, .ref ac, .ref aR])), (aa, .inl (cI, 40, .inl (upd (nF f) j (nI (((r * 256) + (f j)) / q)))))] H := hP
              have hD : va_D A [(o, .inr (3, [.int (nI mo), .int (nI n), .ref aP, .ref aH, .ref aT, .ref aB, .ref aZ, .ref aS, .ref aa, .ref ab, .ref ac, .ref aR])), (aa, .inl (cI, 40, .inl (upd (nF f) j (nI (((r * 256) + (f j)) / q)))))] := hD
              have e_w96 : upd (nF f) j (nI (((r * 256) + (f j)) / q)) = nF (updN f j ((r * 256 + f j) / q)) := nF_u f j _
              rw [e_w96] at hP hD
              refine lv_lload hx hb dM_scale_97 (lv_at hl 0 rfl) ?_
              refine lv_lload_n hx hb dM_scale_99 rfl (lv_at hl 2 rfl) ?_
              refine lv_lrem hx hb dM_scale_100 (l_ne0 (by omega) (by omega)) ?_
              refine tp_l (y := lN (((r * 256) + (f j)) % q)) (pk_lRem (by omega) (by omega) (by omega)) ?_
              refine lv_lstore (lv' := [(7, .long (lN (((r * 256) + (f j)) % q))), (10, .long (lN ((r * 256) + (f j)))), (0, .ref o), (3, .long (lN q)), (9, .int (nI j))]) hx hb dM_scale_101 hl (by decide) rfl (fun ls hl => ?_)
              refine lv_iinc (v := (nI j) + (-1)) (lv' := [(9, .int ((nI j) + (-1))), (7, .long (lN (((r * 256) + (f j)) % q))), (10, .long (lN ((r * 256) + (f j)))), (0, .ref o), (3, .long (lN q))]) hx hb dM_scale_103 hl (k := 4) rfl rfl (by decide) rfl (fun ls hl => ?_)
              refine lv_goto (tgt := 63) hx hb dM_scale_106 (by decide) ?_
              exact ih_63 j ((nI j) + (-1)) ((r * 256 + f j) % q) (updN f j ((r * 256 + f j) / q)) (by omega) (by omega) rfl (Nat.mod_lt _ hq0) (by8_u hf8 hdv) hg _ _ (hP.sub [0, 1] rfl) (hD.sub [0, 1] (by decide) rfl) hS ls (lv_sub hl [3, 4, 1, 0] rfl)
        exact lp_63 41 40 (nI 39) 0 (r_mulL t 40 0 0 α) (by omega) (by omega) (pk_m1 39).symm (by omega) (r_mulL_by hα8) rfl _ _ (hP.sub [0, 1] rfl) (hD.sub [0, 1] (by decide) rfl) hS ls (lv_sub hl [2, 4, 1, 0] rfl)
      · skip
        have c_10 : i < 40 := n_nle c_10 (by omega) (by omega)
        obtain ⟨d, rfl⟩ : ∃ d' : Nat, d = d' + 1 := ⟨d - 1, by omega⟩
        have hfi := hf8 i
        have hmc := r_mul_c hfi ht hcy
        refine lv_aload_n hx hb dM_scale_13 rfl (lv_at hl 0 rfl) ?_
        refine va_get (D := D) (ci := 3) (v := .ref aa) (C := RM) (T := TM) (N := 12) hx hb hts iM_scale_M hown hK hP 0 rfl rfl 8 (by decide) (hts (.fieldLink RM 30 "TreeDeskModel" "a" "[I") (by decide +kernel)) (fun _ h9 => h9) rfl dM_scale_14 ?_
        refine lv_iload hx hb dM_scale_17 (lv_at hl 4 rfl) ?_
        refine ar_ild (j := i) hx hb hK hP 1 0 rfl rfl dM_scale_19 (by omega) (by omega) ?_
        refine tp_i (y := nI (f i)) rfl ?_
        refine lv_i2l (v := lN (f i)) hx hb dM_scale_20 (nI_l (by omega)) ?_
        refine lv_lload_n hx hb dM_scale_21 rfl (lv_at hl 1 rfl) ?_
        refine lv_lmul hx hb dM_scale_22 ?_
        refine tp_l (y := lN ((f i) * t)) (lN_mul _ _) ?_
        refine lv_lload hx hb dM_scale_23 (lv_at hl 3 rfl) ?_
        refine lv_ladd hx hb dM_scale_25 ?_
        refine tp_l (y := lN (((f i) * t) + cy)) (lN_add _ _) ?_
        refine lv_lstore (lv' := [(8, .long (lN (((f i) * t) + cy))), (0, .ref o), (1, .long (lN t)), (3, .long (lN q)), (5, .long (lN cy)), (7, .int (nI i))]) hx hb dM_scale_26 hl (by decide) rfl (fun ls hl => ?_)
        refine lv_aload_n hx hb dM_scale_28 rfl (lv_at hl 1 rfl) ?_
        refine va_get (D := D) (ci := 3) (v := .ref aa) (C := RM) (T := TM) (N := 12) hx hb hts iM_scale_M hown hK hP 0 rfl rfl 8 (by decide) (hts (.fieldLink RM 30 "TreeDeskModel" "a" "[I") (by decide +kernel)) (fun _ h9 => h9) rfl dM_scale_29 ?_
        refine lv_iload hx hb dM_scale_32 (lv_at hl 5 rfl) ?_
        refine lv_lload hx hb dM_scale_34 (lv_at hl 0 rfl) ?_
        refine lv_ldc2 (v := 256) hx hb hown (hts (.constantLong RM 76 256) (by decide +kernel)) dM_scale_36 ?_
        refine tp_l (y := lN 256) (by decide) ?_
        refine lv_lrem hx hb dM_scale_39 (l_ne0 (by omega) (by omega)) ?_
        refine tp_l (y := lN ((((f i) * t) + cy) % 256)) (pk_lRem (by omega) (by omega) (by omega)) ?_
        refine lv_l2i (v := nI ((((f i) * t) + cy) % 256)) hx hb dM_scale_40 (lN_i _) ?_
        refine ar_ist (j := i) hx hb hK hP hD hS 1 0 rfl rfl dM_scale_41 (by omega) (by omega) (fun H locs hP hD hS => ?_)
        have hP : va_P D vwCl [(o, .inr (3, [.int (nI mo), .int (nI n), .ref aP, .ref aH, .ref aT, .ref aB, .ref aZ, .ref aS, .ref aa, .ref ab, .ref ac, .ref aR])), (aa, .inl (cI, 40, .inl (upd (nF f) i (nI ((((f i) * t) + cy) % 256)))))] H := hP
        have hD : va_D A [(o, .inr (3, [.int (nI mo), .int (nI n), .ref aP, .ref aH, .ref aT, .ref aB, .ref aZ, .ref aS, .ref aa, .ref ab, .ref ac, .ref aR])), (aa, .inl (cI, 40, .inl (upd (nF f) i (nI ((((f i) * t) + cy) % 256)))))] := hD
        have e_w41 : upd (nF f) i (nI ((((f i) * t) + cy) % 256)) = nF (updN f i ((f i * t + cy) % 256)) := nF_u f i _
        rw [e_w41] at hP hD
        refine lv_lload hx hb dM_scale_42 (lv_at hl 0 rfl) ?_
        refine lv_ldc2 (v := 256) hx hb hown (hts (.constantLong RM 76 256) (by decide +kernel)) dM_scale_44 ?_
        refine tp_l (y := lN 256) (by decide) ?_
        refine lv_ldiv hx hb dM_scale_47 (l_ne0 (by omega) (by omega)) ?_
        refine tp_l (y := lN ((((f i) * t) + cy) / 256)) (pk_lDiv (by omega) (by omega) (by omega)) ?_
        refine lv_lstore (lv' := [(5, .long (lN ((((f i) * t) + cy) / 256))), (8, .long (lN (((f i) * t) + cy))), (0, .ref o), (1, .long (lN t)), (3, .long (lN q)), (7, .int (nI i))]) hx hb dM_scale_48 hl (by decide) rfl (fun ls hl => ?_)
        refine lv_iinc (v := nI (i + 1)) (lv' := [(7, .int (nI (i + 1))), (5, .long (lN ((((f i) * t) + cy) / 256))), (8, .long (lN (((f i) * t) + cy))), (0, .ref o), (1, .long (lN t)), (3, .long (lN q))]) hx hb dM_scale_50 hl (k := 5) rfl (nI_add _ 1) (by decide) rfl (fun ls hl => ?_)
        refine lv_goto (tgt := 6) hx hb dM_scale_53 (by decide) ?_
        exact ih_6 d (i + 1) ((f i * t + cy) / 256) (updN f i ((f i * t + cy) % 256)) (by omega) (by omega) hmc.2 (by8_u hf8 (Nat.mod_lt _ (by omega))) hg _ _ (hP.sub [0, 1] rfl) (hD.sub [0, 1] (by decide) rfl) hS ls (lv_sub hl [3, 4, 5, 1, 0] rfl)
  exact lp_6 41 40 0 0 α (by omega) (by omega) (by omega) hα8 rfl _ _ (hP.sub [0, 1] rfl) (hD.sub [0, 1] (by decide) rfl) hS ls (lv_sub hl [2, 3, 4, 1, 0] rfl)
