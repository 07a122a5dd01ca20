abbrev rm_k_nothing : Room := { frames := 0, cells := 0, slots := 0, locals := 0 }
set_option maxRecDepth 100000 in
set_option maxHeartbeats 4000000 in
theorem k_nothing (l : Launch) (D : va_G) (cI cJ cZ : ClassId) (a : Nat) (α : Nat → Nat)  : rw_C l yM_nothing wM_nothing rm_k_nothing D vwCl (gT cI cJ cZ) [.ref a] [(a, .inl (cI, 40, .inl (nF α)))] (fun v9 w9 => v9 = none ∧ w9 = [(a, .inl (cI, 40, .inl (nF (zN α 40))))]) 0 0 := by
  refine rw_of (cc := cM_nothing) (maxL := 2) (ret := none) (by decide) rfl (Nat.le_of_ble_eq_true rfl) ?_
  intro p e s m args below meth c Q A ls hx hb hr hml hown hts hlocks hin hK hP hD hA hl hQ
  have hS : va_S A s.heap s.heap [] := va_S.rf
  have hl : lv_has ls 2 [(0, .ref a)] := hl
  have hown : s.vm.findClass RM = some m.cls := hown
  obtain ⟨H, hHe⟩ : ∃ H : Heap, H = s.heap := ⟨_, rfl⟩
  rw [← hHe] at hP
  have hS : va_S A s.heap H [] := by rw [hHe]; exact va_S.rf
  suffices h9 : W p l e rm_k_nothing s m args below meth c H [] 0 0 Q (F0 m 0 ls []) by rw [hHe] at h9; exact h9
  clear hHe
  refine lv_iconst (v := nI 0) hx hb dM_nothing_0 (by decide) ?_
  refine lv_istore_n (lv' := [(1, .int (nI 0)), (0, .ref a)]) hx hb dM_nothing_1 rfl hl (by decide) rfl (fun ls hl => ?_)
  have e_w1 : nF α = nF (zN α 0) := (congrArg nF (zN_0 α)).symm
  rw [e_w1] at hP hD
  have lp_2 : ∀ (n_2 : Nat) (d i : Nat), (d < n_2) → (i + d = 40) → ∀ (H : Heap) (locs : List Loc), va_P D vwCl [(a, .inl (cI, 40, .inl (nF (zN α i))))] H → va_D A [(a, .inl (cI, 40, .inl (nF (zN α i))))] → va_S A s.heap H locs → ∀ (ls : Array Slot), lv_has ls 2 [(0, .ref a), (1, .int (nI i))] → W p l e rm_k_nothing s m args below meth c H locs 0 0 Q (F0 m 2 ls []) := by
    intro n_2
    induction n_2 with
    | zero => intro d i hn hd H locs hP hD hS ls hl; exact absurd hn (by omega)
    | succ n_2 ih_2 =>
      intro d i hn hd H locs hP hD hS ls hl
      refine lv_iload_n hx hb dM_nothing_2 rfl (lv_at hl 1 rfl) ?_
      refine lv_bipush (v := nI 40) hx hb dM_nothing_3 (by decide) ?_
      refine lv_icmp_ge (tgt := 18) hx hb dM_nothing_5 (by decide) (fun c_5 => ?_) (fun c_5 => ?_)
      · skip
        have c_5 : 40 ≤ i := n_le c_5 (by omega) (by omega)
        exact rw_vret (w := [(a, .inl (cI, 40, .inl (nF (zN α i))))]) hQ hx hb hr hlocks dM_nothing_18 (hP.sub [0] rfl) (hD.sub [0] (by decide) rfl) hS ⟨rfl, by rw [show i = 40 by omega]⟩
      · skip
        have c_5 : i < 40 := n_nle c_5 (by omega) (by omega)
        obtain ⟨d, rfl⟩ : ∃ d' : Nat, d = d' + 1 := ⟨d - 1, by omega⟩
        refine lv_aload_n hx hb dM_nothing_8 rfl (lv_at hl 0 rfl) ?_
        refine lv_iload_n hx hb dM_nothing_9 rfl (lv_at hl 1 rfl) ?_
        refine lv_iconst (v := nI 0) hx hb dM_nothing_10 (by decide) ?_
        refine ar_ist (j := i) hx hb hK hP hD hS 0 0 rfl rfl dM_nothing_11 (by omega) (by omega) (fun H locs hP hD hS => ?_)
        have hP : va_P D vwCl [(a, .inl (cI, 40, .inl (upd (nF (zN α i)) i (nI 0))))] H := hP
        have hD : va_D A [(a, .inl (cI, 40, .inl (upd (nF (zN α i)) i (nI 0))))] := hD
        have e_w11 : upd (nF (zN α i)) i (nI 0) = nF (zN α (i + 1)) := zN_s α i
        rw [e_w11] at hP hD
        refine lv_iinc (v := nI (i + 1)) (lv' := [(1, .int (nI (i + 1))), (0, .ref a)]) hx hb dM_nothing_12 hl (k := 1) rfl (nI_add _ 1) (by decide) rfl (fun ls hl => ?_)
        refine lv_goto (tgt := 2) hx hb dM_nothing_15 (by decide) ?_
        exact ih_2 d (i + 1) (by omega) (by omega) _ _ (hP.sub [0] rfl) (hD.sub [0] (by decide) rfl) hS ls (lv_sub hl [1, 0] rfl)
  exact lp_2 41 40 0 (by omega) (by omega) _ _ (hP.sub [0] rfl) (hD.sub [0] (by decide) rfl) hS ls (lv_sub hl [1, 0] rfl)

abbrev rm_k_compareRows : Room := { frames := 0, cells := 0, slots := 0, locals := 0 }
set_option maxRecDepth 100000 in
set_option maxHeartbeats 4000000 in
theorem k_compareRows (l : Launch) (D : va_G) (cI cJ cZ : ClassId) (a : Nat) (b : Nat) (α : Nat → Nat) (β : Nat → Nat) (hα8 : by8 α) (hβ8 : by8 β) : ro_C l yM_compareRows wM_compareRows rm_k_compareRows D vwCl (gT cI cJ cZ) [.ref a, .ref b] [(a, .inl (cI, 40, .inl (nF α))), (b, .inl (cI, 40, .inl (nF β)))] (some (.int (r_cmp α β 40 0 (nI 0)))) := by
  refine ro_of (cc := cM_compareRows) (maxL := 4) (ret := some .int) (by decide) rfl (Nat.le_of_ble_eq_true rfl) ?_
  intro p e s m args below meth c Q ls hx hb hr hml hown hts hlocks hK hP hl hQ
  have hl : lv_has ls 4 [(0, .ref a), (1, .ref b)] := hl
  have hown : s.vm.findClass RM = some m.cls := hown
  refine lv_iconst (v := nI 0) hx hb dM_compareRows_0 (by decide) ?_
  refine lv_istore_n (lv' := [(2, .int (nI 0)), (0, .ref a), (1, .ref b)]) hx hb dM_compareRows_1 rfl hl (by decide) rfl (fun ls hl => ?_)
  refine lv_iconst (v := nI 0) hx hb dM_compareRows_2 (by decide) ?_
  refine lv_istore_n (lv' := [(3, .int (nI 0)), (2, .int (nI 0)), (0, .ref a), (1, .ref b)]) hx hb dM_compareRows_3 rfl hl (by decide) rfl (fun ls hl => ?_)
  have lp_4 : ∀ (n_4 : Nat) (d i : Nat) (od : Int32), (d < n_4) → (i + d = 40) → (r_cmp α β d i od = r_cmp α β 40 0 (nI 0)) → ∀ (ls : Array Slot), lv_has ls 4 [(0, .ref a), (1, .ref b), (2, .int od), (3, .int (nI i))] → W p l e rm_k_compareRows s m args below meth c s.heap [] 0 0 Q (F0 m 4 ls []) := by
    intro n_4
    induction n_4 with
    | zero => intro d i od hn hd hg ls hl; exact absurd hn (by omega)
    | succ n_4 ih_4 =>
      intro d i od hn hd hg ls hl
      refine lv_iload_n hx hb dM_compareRows_4 rfl (lv_at hl 3 rfl) ?_
      refine lv_bipush (v := nI 40) hx hb dM_compareRows_5 (by decide) ?_
      refine lv_icmp_ge (tgt := 44) hx hb dM_compareRows_7 (by decide) (fun c_7 => ?_) (fun c_7 => ?_)
      · skip
        have c_7 : 40 ≤ i := n_le c_7 (by omega) (by omega)
        have hd0 : d = 0 := by omega
        subst hd0
        refine lv_iload_n hx hb dM_compareRows_44 rfl (lv_at hl 2 rfl) ?_
        exact ro_iret hQ hx hb hr hlocks dM_compareRows_45 (by rw [← hg]; rfl)
      · skip
        have c_7 : i < 40 := n_nle c_7 (by omega) (by omega)
        obtain ⟨d, rfl⟩ : ∃ d' : Nat, d = d' + 1 := ⟨d - 1, by omega⟩
        have hai := hα8 i
        have hbi := hβ8 i
        refine lv_aload_n hx hb dM_compareRows_10 rfl (lv_at hl 0 rfl) ?_
        refine lv_iload_n hx hb dM_compareRows_11 rfl (lv_at hl 3 rfl) ?_
        refine ar_ild (j := i) hx hb hK hP 0 0 rfl rfl dM_compareRows_12 (by omega) (by omega) ?_
        refine tp_i (y := nI (α i)) rfl ?_
        refine lv_aload_n hx hb dM_compareRows_13 rfl (lv_at hl 1 rfl) ?_
        refine lv_iload_n hx hb dM_compareRows_14 rfl (lv_at hl 3 rfl) ?_
        refine ar_ild (j := i) hx hb hK hP 1 0 rfl rfl dM_compareRows_15 (by omega) (by omega) ?_
        refine tp_i (y := nI (β i)) rfl ?_
        refine lv_icmp_ge (tgt := 23) hx hb dM_compareRows_16 (by decide) (fun c_16 => ?_) (fun c_16 => ?_)
        · skip
          have c_16 : (β i) ≤ (α i) := n_le c_16 (by omega) (by omega)
          refine lv_aload_n hx hb dM_compareRows_23 rfl (lv_at hl 0 rfl) ?_
          refine lv_iload_n hx hb dM_compareRows_24 rfl (lv_at hl 3 rfl) ?_
          refine ar_ild (j := i) hx hb hK hP 0 0 rfl rfl dM_compareRows_25 (by omega) (by omega) ?_
          refine tp_i (y := nI (α i)) rfl ?_
          refine lv_aload_n hx hb dM_compareRows_26 rfl (lv_at hl 1 rfl) ?_
          refine lv_iload_n hx hb dM_compareRows_27 rfl (lv_at hl 3 rfl) ?_
          refine ar_ild (j := i) hx hb hK hP 1 0 rfl rfl dM_compareRows_28 (by omega) (by omega) ?_
          refine tp_i (y := nI (β i)) rfl ?_
          refine lv_icmp_le (tgt := 36) hx hb dM_compareRows_29 (by decide) (fun c_29 => ?_) (fun c_29 => ?_)
          · skip
            have c_29 : (α i) ≤ (β i) := n_le c_29 (by omega) (by omega)
            refine lv_iload_n hx hb dM_compareRows_36 rfl (lv_at hl 2 rfl) ?_
            refine lv_istore_n (lv' := [(2, .int od), (0, .ref a), (1, .ref b), (3, .int (nI i))]) hx hb dM_compareRows_37 rfl hl (by decide) rfl (fun ls hl => ?_)
            refine lv_iinc (v := nI (i + 1)) (lv' := [(3, .int (nI (i + 1))), (2, .int od), (0, .ref a), (1, .ref b)]) hx hb dM_compareRows_38 hl (k := 3) rfl (nI_add _ 1) (by decide) rfl (fun ls hl => ?_)
            refine lv_goto (tgt := 4) hx hb dM_compareRows_41 (by decide) ?_
            exact ih_4 d (i + 1) od (by omega) (by omega) (by rw [← hg, r_cmp, if_neg (by omega), if_neg (by omega)]) ls (lv_sub hl [2, 3, 1, 0] rfl)
          · skip
            have c_29 : (β i) < (α i) := n_nle c_29 (by omega) (by omega)
            refine lv_iconst (v := nI 1) hx hb dM_compareRows_32 (by decide) ?_
            refine lv_goto (tgt := 37) hx hb dM_compareRows_33 (by decide) ?_
            refine lv_istore_n (lv' := [(2, .int (nI 1)), (0, .ref a), (1, .ref b), (3, .int (nI i))]) hx hb dM_compareRows_37 rfl hl (by decide) rfl (fun ls hl => ?_)
            refine lv_iinc (v := nI (i + 1)) (lv' := [(3, .int (nI (i + 1))), (2, .int (nI 1)), (0, .ref a), (1, .ref b)]) hx hb dM_compareRows_38 hl (k := 3) rfl (nI_add _ 1) (by decide) rfl (fun ls hl => ?_)
            refine lv_goto (tgt := 4) hx hb dM_compareRows_41 (by decide) ?_
            exact ih_4 d (i + 1) (nI 1) (by omega) (by omega) (by rw [← hg, r_cmp, if_neg (by omega), if_pos c_29]) ls (lv_sub hl [2, 3, 1, 0] rfl)
        · skip
          have c_16 : (α i) < (β i) := n_nle c_16 (by omega) (by omega)
          refine lv_iconst (v := (-1)) hx hb dM_compareRows_19 (by decide) ?_
          refine lv_goto (tgt := 37) hx hb dM_compareRows_20 (by decide) ?_
          refine lv_istore_n (lv' := [(2, .int (-1)), (0, .ref a), (1, .ref b), (3, .int (nI i))]) hx hb dM_compareRows_37 rfl hl (by decide) rfl (fun ls hl => ?_)
          refine lv_iinc (v := nI (i + 1)) (lv' := [(3, .int (nI (i + 1))), (2, .int (-1)), (0, .ref a), (1, .ref b)]) hx hb dM_compareRows_38 hl (k := 3) rfl (nI_add _ 1) (by decide) rfl (fun ls hl => ?_)
          refine lv_goto (tgt := 4) hx hb dM_compareRows_41 (by decide) ?_
          exact ih_4 d (i + 1) (-1) (by omega) (by omega) (by rw [← hg, r_cmp, if_pos c_16]) ls (lv_sub hl [2, 3, 1, 0] rfl)
  exact lp_4 41 40 0 (nI 0) (by omega) (by omega) rfl ls (lv_sub hl [2, 3, 1, 0] rfl)

abbrev rm_k_bytes : Room := { frames := 0, cells := 0, slots := 0, locals := 0 }
set_option maxRecDepth 100000 in
set_option maxHeartbeats 4000000 in
theorem k_bytes (l : Launch) (D : va_G) (cI cJ cZ : ClassId) (a : Nat) (α : Nat → Nat) (hα8 : by8 α) : ro_C l yM_bytes wM_bytes rm_k_bytes D vwCl (gT cI cJ cZ) [.ref a] [(a, .inl (cI, 40, .inl (nF α)))] (some (.int (nI (r_bytes α 40 0 0)))) := by
  refine ro_of (cc := cM_bytes) (maxL := 3) (ret := some .int) (by decide) rfl (Nat.le_of_ble_eq_true rfl) ?_
  intro p e s m args below meth c Q ls hx hb hr hml hown hts hlocks hK hP hl hQ
  have hl : lv_has ls 3 [(0, .ref a)] := hl
  have hown : s.vm.findClass RM = some m.cls := hown
  refine lv_iconst (v := nI 0) hx hb dM_bytes_0 (by decide) ?_
  refine lv_istore_n (lv' := [(1, .int (nI 0)), (0, .ref a)]) hx hb dM_bytes_1 rfl hl (by decide) rfl (fun ls hl => ?_)
  refine lv_iconst (v := nI 0) hx hb dM_bytes_2 (by decide) ?_
  refine lv_istore_n (lv' := [(2, .int (nI 0)), (1, .int (nI 0)), (0, .ref a)]) hx hb dM_bytes_3 rfl hl (by decide) rfl (fun ls hl => ?_)
  have lp_4 : ∀ (n_4 : Nat) (d i z : Nat), (d < n_4) → (i + d = 40) → (r_bytes α d i z = r_bytes α 40 0 0) → ∀ (ls : Array Slot), lv_has ls 3 [(0, .ref a), (1, .int (nI z)), (2, .int (nI i))] → W p l e rm_k_bytes s m args below meth c s.heap [] 0 0 Q (F0 m 4 ls []) := by
    intro n_4
    induction n_4 with
    | zero => intro d i z hn hd hg ls hl; exact absurd hn (by omega)
    | succ n_4 ih_4 =>
      intro d i z hn hd hg ls hl
      refine lv_iload_n hx hb dM_bytes_4 rfl (lv_at hl 2 rfl) ?_
      refine lv_bipush (v := nI 40) hx hb dM_bytes_5 (by decide) ?_
      refine lv_icmp_ge (tgt := 30) hx hb dM_bytes_7 (by decide) (fun c_7 => ?_) (fun c_7 => ?_)
      · skip
        have c_7 : 40 ≤ i := n_le c_7 (by omega) (by omega)
        have hd0 : d = 0 := by omega
        subst hd0
        refine lv_iload_n hx hb dM_bytes_30 rfl (lv_at hl 1 rfl) ?_
        exact ro_iret hQ hx hb hr hlocks dM_bytes_31 (by rw [← hg]; rfl)
      · skip
        have c_7 : i < 40 := n_nle c_7 (by omega) (by omega)
        obtain ⟨d, rfl⟩ : ∃ d' : Nat, d = d' + 1 := ⟨d - 1, by omega⟩
        have hai := hα8 i
        refine lv_aload_n hx hb dM_bytes_10 rfl (lv_at hl 0 rfl) ?_
        refine lv_iload_n hx hb dM_bytes_11 rfl (lv_at hl 2 rfl) ?_
        refine ar_ild (j := i) hx hb hK hP 0 0 rfl rfl dM_bytes_12 (by omega) (by omega) ?_
        refine tp_i (y := nI (α i)) rfl ?_
        refine lv_if_le (tgt := 22) hx hb dM_bytes_13 (by decide) (fun c_13 => ?_) (fun c_13 => ?_)
        · skip
          rw [← nI_0] at c_13
          have c_13 : (α i) ≤ 0 := n_le c_13 (by omega) (by omega)
          refine lv_iload_n hx hb dM_bytes_22 rfl (lv_at hl 1 rfl) ?_
          refine lv_istore_n (lv' := [(1, .int (nI z)), (0, .ref a), (2, .int (nI i))]) hx hb dM_bytes_23 rfl hl (by decide) rfl (fun ls hl => ?_)
          refine lv_iinc (v := nI (i + 1)) (lv' := [(2, .int (nI (i + 1))), (1, .int (nI z)), (0, .ref a)]) hx hb dM_bytes_24 hl (k := 2) rfl (nI_add _ 1) (by decide) rfl (fun ls hl => ?_)
          refine lv_goto (tgt := 4) hx hb dM_bytes_27 (by decide) ?_
          exact ih_4 d (i + 1) z (by omega) (by omega) (by rw [← hg, r_bytes, if_neg (by omega)]) ls (lv_sub hl [2, 1, 0] rfl)
        · skip
          rw [← nI_0] at c_13
          have c_13 : 0 < (α i) := n_nle c_13 (by omega) (by omega)
          refine lv_iload_n hx hb dM_bytes_16 rfl (lv_at hl 2 rfl) ?_
          refine lv_iconst (v := nI 1) hx hb dM_bytes_17 (by decide) ?_
          refine lv_iadd hx hb dM_bytes_18 ?_
          refine tp_i (y := nI (i + 1)) (nI_add _ _) ?_
          refine lv_goto (tgt := 23) hx hb dM_bytes_19 (by decide) ?_
          refine lv_istore_n (lv' := [(1, .int (nI (i + 1))), (0, .ref a), (2, .int (nI i))]) hx hb dM_bytes_23 rfl hl (by decide) rfl (fun ls hl => ?_)
          refine lv_iinc (v := nI (i + 1)) (lv' := [(2, .int (nI (i + 1))), (1, .int (nI (i + 1))), (0, .ref a)]) hx hb dM_bytes_24 hl (k := 2) rfl (nI_add _ 1) (by decide) rfl (fun ls hl => ?_)
          refine lv_goto (tgt := 4) hx hb dM_bytes_27 (by decide) ?_
          exact ih_4 d (i + 1) (i + 1) (by omega) (by omega) (by rw [← hg, r_bytes, if_pos c_13]) ls (lv_sub hl [2, 1, 0] rfl)
  exact lp_4 41 40 0 0 (by omega) (by omega) rfl ls (lv_sub hl [2, 1, 0] rfl)

abbrev rm_k_open : Room := { frames := 1, cells := 0, slots := 0, locals := 21 }
set_option maxRecDepth 100000 in
set_option maxHeartbeats 4000000 in
theorem k_open (l : Launch) (D : va_G) (cI cJ cZ : ClassId) (a : Nat) (α : Nat → Nat) (v : Nat) (hv : v < 4294967296) : rw_C l yM_open wM_open rm_k_open D vwCl (gT cI cJ cZ) [.long (lN v), .ref a] [(a, .inl (cI, 40, .inl (nF α)))] (fun v9 w9 => v9 = none ∧ w9 = [(a, .inl (cI, 40, .inl (nF (r_open v α))))]) 0 0 := by
  refine rw_of (cc := cM_open) (maxL := 8) (ret := none) (by decide) rfl (Nat.le_of_ble_eq_true rfl) ?_
  intro p e s m args below meth c Q A ls hx hb hr hml hown hts hlocks hin hK hP hD hA hl hQ
  have hS : va_S A s.heap s.heap [] := va_S.rf
  have hl : lv_has ls 8 [(0, .long (lN v)), (2, .ref a)] := hl
  have hown : s.vm.findClass RM = some m.cls := hown
  obtain ⟨H, hHe⟩ : ∃ H : Heap, H = s.heap := ⟨_, rfl⟩
  rw [← hHe] at hP
  have hS : va_S A s.heap H [] := by rw [hHe]; exact va_S.rf
  suffices h9 : W p l e rm_k_open s m args below meth c H [] 0 0 Q (F0 m 0 ls []) by rw [hHe] at h9; exact h9
  clear hHe
  refine lv_aload_n hx hb dM_open_0 rfl (lv_at hl 1 rfl) ?_
  refine rw_k (wc := [(a, .inl (cI, 40, .inl (nF α)))]) (wr := []) (va_runS (As := [.ref a]) (rest := []) ⟨hx, hb, hml, hown, hts⟩ (k_nothing l D cI cJ cZ a α H.size) (va_cwS 1 hts gM_open_M_nothing_64 rfl rfl rfl (by decide +kernel) ⟨Nat.le_of_ble_eq_true rfl, Nat.le_of_ble_eq_true rfl⟩) (rw_preS (hP.sub [0] rfl) hK (hD.sub [0] (by decide) rfl)) rfl rfl hl.1 rfl (lv_room (Nat.le_of_ble_eq_true rfl)) dM_open_1 ⟨Nat.le_of_ble_eq_true rfl, Nat.le_of_ble_eq_true rfl⟩) hP hD hS hA [0] [] rfl rfl (by decide) (by decide) (fun v9 w9 H locs hp9 hP hD hS => ?_)
  obtain ⟨rfl, rfl⟩ := hp9
  have hP : va_P D vwCl [(a, .inl (cI, 40, .inl (nF (zN α 40))))] H := hP
  have hD : va_D A [(a, .inl (cI, 40, .inl (nF (zN α 40))))] := hD
  refine W.eq (g2 := F0 m 4 ls []) rfl ?_
  refine lv_lload_n hx hb dM_open_4 rfl (lv_at hl 0 rfl) ?_
  refine lv_bipush (v := nI 24) hx hb dM_open_5 (by decide) ?_
  refine lv_lshr (v := lN (v / 16777216)) hx hb dM_open_7 (l_shr v 24 (by omega) (by omega)) ?_
  refine lv_l2i (v := nI (v / 16777216)) hx hb dM_open_8 (lN_i _) ?_
  refine lv_istore_n (lv' := [(3, .int (nI (v / 16777216))), (0, .long (lN v)), (2, .ref a)]) hx hb dM_open_9 rfl hl (by decide) rfl (fun ls hl => ?_)
  refine lv_lload_n hx hb dM_open_10 rfl (lv_at hl 1 rfl) ?_
  refine lv_ldc2 (v := 8388607) hx hb hown (hts (.constantLong RM 68 8388607) (by decide +kernel)) dM_open_11 ?_
  refine tp_l (y := lN 8388607) (by decide) ?_
  refine lv_land hx hb dM_open_14 ?_
  refine tp_l (y := lN (v % 8388608)) (g_mask (p := 8388608) (s := 23) rfl (by omega) (by omega)) ?_
  refine lv_lstore (lv' := [(4, .long (lN (v % 8388608))), (3, .int (nI (v / 16777216))), (0, .long (lN v)), (2, .ref a)]) hx hb dM_open_15 hl (by decide) rfl (fun ls hl => ?_)
  refine lv_iconst (v := nI 0) hx hb dM_open_17 (by decide) ?_
  refine lv_istore (lv' := [(6, .int (nI 0)), (4, .long (lN (v % 8388608))), (3, .int (nI (v / 16777216))), (0, .long (lN v)), (2, .ref a)]) hx hb dM_open_18 hl (by decide) rfl (fun ls hl => ?_)
  have lp_20 : ∀ (n_20 : Nat) (d k : Nat) (f : Nat → Nat), (d < n_20) → (k + d = 3) → (r_openL (v / 16777216) (v % 8388608) d k f = r_open v α) → ∀ (H : Heap) (locs : List Loc), va_P D vwCl [(a, .inl (cI, 40, .inl (nF f)))] H → va_D A [(a, .inl (cI, 40, .inl (nF f)))] → va_S A s.heap H locs → ∀ (ls : Array Slot), lv_has ls 8 [(0, .long (lN v)), (2, .ref a), (3, .int (nI (v / 16777216))), (4, .long (lN (v % 8388608))), (6, .int (nI k))] → W p l e rm_k_open s m args below meth c H locs 0 0 Q (F0 m 20 ls []) := by
    intro n_20
    induction n_20 with
    | zero => intro d k f hn hd hg H locs hP hD hS ls hl; exact absurd hn (by omega)
    | succ n_20 ih_20 =>
      intro d k f hn hd hg H locs hP hD hS ls hl
      refine lv_iload hx hb dM_open_20 (lv_at hl 4 rfl) ?_
      refine lv_iconst (v := nI 3) hx hb dM_open_22 (by decide) ?_
      refine lv_icmp_ge (tgt := 69) hx hb dM_open_23 (by decide) (fun c_23 => ?_) (fun c_23 => ?_)
      · skip
        have c_23 : 3 ≤ k := n_le c_23 (by omega) (by omega)
        have hd0 : d = 0 := by omega
        subst hd0
        exact rw_vret (w := [(a, .inl (cI, 40, .inl (nF f)))]) hQ hx hb hr hlocks dM_open_69 (hP.sub [0] rfl) (hD.sub [0] (by decide) rfl) hS ⟨rfl, by rw [show r_open v α = f from hg.symm]⟩
      · skip
        have c_23 : k < 3 := n_nle c_23 (by omega) (by omega)
        obtain ⟨d, rfl⟩ : ∃ d' : Nat, d = d' + 1 := ⟨d - 1, by omega⟩
        refine lv_iload_n hx hb dM_open_26 rfl (lv_at hl 2 rfl) ?_
        refine lv_iconst (v := nI 3) hx hb dM_open_27 (by decide) ?_
        refine lv_isub hx hb dM_open_28 ?_
        refine lv_iload hx hb dM_open_29 (lv_at hl 4 rfl) ?_
        refine lv_iadd hx hb dM_open_31 ?_
        refine lv_topi (fun pl e_pl => ?_)
        refine lv_istore (lv' := [(7, .int pl), (0, .long (lN v)), (2, .ref a), (3, .int (nI (v / 16777216))), (4, .long (lN (v % 8388608))), (6, .int (nI k))]) hx hb dM_open_32 hl (by decide) rfl (fun ls hl => ?_)
        refine lv_iload hx hb dM_open_34 (lv_at hl 0 rfl) ?_
        refine lv_if_lt (tgt := 63) hx hb dM_open_36 (by decide) (fun c_36 => ?_) (fun c_36 => ?_)
        · skip
          have hlt : v / 16777216 + k < 3 := op_lt e_pl c_36 (by omega) (by omega)
          refine lv_iinc (v := nI (k + 1)) (lv' := [(6, .int (nI (k + 1))), (7, .int pl), (0, .long (lN v)), (2, .ref a), (3, .int (nI (v / 16777216))), (4, .long (lN (v % 8388608)))]) hx hb dM_open_63 hl (k := 5) rfl (nI_add _ 1) (by decide) rfl (fun ls hl => ?_)
          refine lv_goto (tgt := 20) hx hb dM_open_66 (by decide) ?_
          exact ih_20 d (k + 1) f (by omega) (by omega) (by rw [← hg, r_openL, r_open1, if_pos hlt]) _ _ (hP.sub [0] rfl) (hD.sub [0] (by decide) rfl) hS ls (lv_sub hl [2, 3, 4, 5, 0] rfl)
        · skip
          obtain ⟨q, hq, rfl⟩ := op_ge e_pl c_36 (by omega) (by omega)
          refine lv_iload hx hb dM_open_39 (lv_at hl 0 rfl) ?_
          refine lv_bipush (v := nI 40) hx hb dM_open_41 (by decide) ?_
          refine lv_icmp_ge (tgt := 63) hx hb dM_open_43 (by decide) (fun c_43 => ?_) (fun c_43 => ?_)
          · skip
            have c_43 : 40 ≤ q := n_le c_43 (by omega) (by omega)
            refine lv_iinc (v := nI (k + 1)) (lv' := [(6, .int (nI (k + 1))), (7, .int (nI q)), (0, .long (lN v)), (2, .ref a), (3, .int (nI (v / 16777216))), (4, .long (lN (v % 8388608)))]) hx hb dM_open_63 hl (k := 5) rfl (nI_add _ 1) (by decide) rfl (fun ls hl => ?_)
            refine lv_goto (tgt := 20) hx hb dM_open_66 (by decide) ?_
            exact ih_20 d (k + 1) f (by omega) (by omega) (by rw [← hg, r_openL, r_open1, if_neg (by omega), if_neg (by omega)]) _ _ (hP.sub [0] rfl) (hD.sub [0] (by decide) rfl) hS ls (lv_sub hl [2, 3, 4, 5, 0] rfl)
          · skip
            have c_43 : q < 40 := n_nle c_43 (by omega) (by omega)
            refine lv_aload_n hx hb dM_open_46 rfl (lv_at hl 2 rfl) ?_
            refine lv_iload hx hb dM_open_47 (lv_at hl 0 rfl) ?_
            refine lv_lload hx hb dM_open_49 (lv_at hl 4 rfl) ?_
            refine lv_bipush (v := nI 8) hx hb dM_open_51 (by decide) ?_
            refine lv_iload hx hb dM_open_53 (lv_at hl 5 rfl) ?_
            refine lv_imul hx hb dM_open_55 ?_
            refine tp_i (y := nI (8 * k)) (pk_mul _ _) ?_
            refine lv_lshr (v := j_shr (lN (v % 8388608)) (nI (8 * k))) hx hb dM_open_56 rfl ?_
            refine lv_ldc2 (v := 255) hx hb hown (hts (.constantLong RM 70 255) (by decide +kernel)) dM_open_57 ?_
            refine tp_l (y := lN 255) (by decide) ?_
            refine lv_land hx hb dM_open_60 ?_
            refine lv_l2i (v := ((j_shr (lN (v % 8388608)) (nI (8 * k))) &&& (lN 255)).toInt32) hx hb dM_open_61 rfl ?_
            refine tp_i (y := nI (v % 8388608 / 2 ^ (8 * k) % 256)) (op_v (by omega) (by omega)) ?_
            refine ar_ist (j := q) hx hb hK hP hD hS 0 0 rfl rfl dM_open_62 (by omega) (by omega) (fun H locs hP hD hS => ?_)
            have hP : va_P D vwCl [(a, .inl (cI, 40, .inl (upd (nF f) q (nI (v % 8388608 / 2 ^ (8 * k) % 256)))))] H := hP
            have hD : va_D A [(a, .inl (cI, 40, .inl (upd (nF f) q (nI (v % 8388608 / 2 ^ (8 * k) % 256)))))] := hD
            have e_w62 : upd (nF f) q (nI (v % 8388608 / 2 ^ (8 * k) % 256)) = nF (updN f q (v % 8388608 / 2 ^ (8 * k) % 256)) := nF_u f q _
            rw [e_w62] at hP hD
            refine lv_iinc (v := nI (k + 1)) (lv' := [(6, .int (nI (k + 1))), (7, .int (nI q)), (0, .long (lN v)), (2, .ref a), (3, .int (nI (v / 16777216))), (4, .long (lN (v % 8388608)))]) hx hb dM_open_63 hl (k := 5) rfl (nI_add _ 1) (by decide) rfl (fun ls hl => ?_)
            refine lv_goto (tgt := 20) hx hb dM_open_66 (by decide) ?_
            exact ih_20 d (k + 1) (updN f q (v % 8388608 / 2 ^ (8 * k) % 256)) (by omega) (by omega) (by rw [← hg, r_openL, r_open1, if_neg (by omega), if_pos (by omega), show v / 16777216 + k - 3 = q by omega]) _ _ (hP.sub [0] rfl) (hD.sub [0] (by decide) rfl) hS ls (lv_sub hl [2, 3, 4, 5, 0] rfl)
  exact lp_20 4 3 0 (zN α 40) (by omega) (by omega) rfl _ _ (hP.sub [0] rfl) (hD.sub [0] (by decide) rfl) hS ls (lv_sub hl [3, 4, 2, 1, 0] rfl)

abbrev rm_k_compactOf : Room := { frames := 1, cells := 0, slots := 0, locals := 22 }
set_option maxRecDepth 100000 in
set_option maxHeartbeats 4000000 in
theorem k_compactOf (l : Launch) (D : va_G) (cI cJ cZ : ClassId) (a : Nat) (α : Nat → Nat) (hα8 : by8 α) : ro_C l yM_compactOf wM_compactOf rm_k_compactOf D vwCl (gT cI cJ cZ) [.ref a] [(a, .inl (cI, 40, .inl (nF α)))] (some (.long (lN (r_compact α)))) := by
  refine ro_of (cc := cM_compactOf) (maxL := 5) (ret := some .long) (by decide) rfl (Nat.le_of_ble_eq_true rfl) ?_
  intro p e s m args below meth c Q ls hx hb hr hml hown hts hlocks hK hP hl hQ
  have hl : lv_has ls 5 [(0, .ref a)] := hl
  have hown : s.vm.findClass RM = some m.cls := hown
  refine lv_aload_n hx hb dM_compactOf_0 rfl (lv_at hl 0 rfl) ?_
  refine ro_ki (va_runS (As := [.ref a]) (rest := []) ⟨hx, hb, hml, hown, hts⟩ (k_bytes l D cI cJ cZ a α hα8) (va_cwS 1 hts gM_compactOf_M_bytes_78 rfl rfl rfl (by decide +kernel) ⟨Nat.le_of_ble_eq_true rfl, Nat.le_of_ble_eq_true rfl⟩) (ro_preS (hP.sub [0] rfl) hK) rfl rfl hl.1 rfl (lv_room (Nat.le_of_ble_eq_true rfl)) dM_compactOf_1 ⟨Nat.le_of_ble_eq_true rfl, Nat.le_of_ble_eq_true rfl⟩) ?_
  have hz : r_bytes α 40 0 0 ≤ 40 := r_bytes_le (i := 0) (z := 0) (by omega)
  refine lv_istore_n (lv' := [(1, .int (nI (r_bytes α 40 0 0))), (0, .ref a)]) hx hb dM_compactOf_4 rfl hl (by decide) rfl (fun ls hl => ?_)
  refine lv_lconst (v := lN 0) hx hb dM_compactOf_5 (by decide) ?_
  refine lv_lstore_n (lv' := [(2, .long (lN 0)), (1, .int (nI (r_bytes α 40 0 0))), (0, .ref a)]) hx hb dM_compactOf_6 rfl hl (by decide) rfl (fun ls hl => ?_)
  refine lv_iconst (v := nI 1) hx hb dM_compactOf_7 (by decide) ?_
  refine lv_istore (lv' := [(4, .int (nI 1)), (2, .long (lN 0)), (1, .int (nI (r_bytes α 40 0 0))), (0, .ref a)]) hx hb dM_compactOf_8 hl (by decide) rfl (fun ls hl => ?_)
  have lp_10 : ∀ (n_10 : Nat) (d k m9 : Nat), (d < n_10) → (k + d = 4) → ((k = 1 ∧ m9 = 0) ∨ (k = 2 ∧ m9 < 256) ∨ (k = 3 ∧ m9 < 65536) ∨ (k = 4 ∧ m9 < 16777216)) → (r_cm α (r_bytes α 40 0 0) d k m9 = r_cm α (r_bytes α 40 0 0) 3 1 0) → ∀ (ls : Array Slot), lv_has ls 5 [(0, .ref a), (1, .int (nI (r_bytes α 40 0 0))), (2, .long (lN m9)), (4, .int (nI k))] → W p l e rm_k_compactOf s m args below meth c s.heap [] 0 0 Q (F0 m 10 ls []) := by
    intro n_10
    induction n_10 with
    | zero => intro d k m9 hn hd hm hg ls hl; exact absurd hn (by omega)
    | succ n_10 ih_10 =>
      intro d k m9 hn hd hm hg ls hl
      refine lv_iload hx hb dM_compactOf_10 (lv_at hl 3 rfl) ?_
      refine lv_iconst (v := nI 3) hx hb dM_compactOf_12 (by decide) ?_
      refine lv_icmp_gt (tgt := 47) hx hb dM_compactOf_13 (by decide) (fun c_13 => ?_) (fun c_13 => ?_)
      · skip
        have c_13 : 3 < k := n_lt c_13 (by omega) (by omega)
        have hd0 : d = 0 := by omega
        subst hd0
        have hr9 : r_cm α (r_bytes α 40 0 0) 3 1 0 = m9 := hg.symm
        refine lv_lload_n hx hb dM_compactOf_47 rfl (lv_at hl 2 rfl) ?_
        refine lv_ldc2 (v := 8388608) hx hb hown (hts (.constantLong RM 82 8388608) (by decide +kernel)) dM_compactOf_48 ?_
        refine tp_l (y := lN 8388608) (by decide) ?_
        refine lc_lt (tgt := 59) hx hb dM_compactOf_51 dM_compactOf_52 (by decide) (fun c_52 => ?_) (fun c_52 => ?_)
        · skip
          have c_52 : m9 < 8388608 := l_lt c_52 (by omega) (by omega)
          refine lv_iconst (v := nI 0) hx hb dM_compactOf_59 (by decide) ?_
          refine lv_istore (lv' := [(4, .int (nI 0)), (0, .ref a), (1, .int (nI (r_bytes α 40 0 0))), (2, .long (lN m9))]) hx hb dM_compactOf_60 hl (by decide) rfl (fun ls hl => ?_)
          refine lv_iload hx hb dM_compactOf_62 (lv_at hl 0 rfl) ?_
          refine lv_if_eq (tgt := 83) hx hb dM_compactOf_64 (by decide) (fun c_64 => ?_) (fun c_64 => ?_)
          · skip
            rw [← nI_0] at c_64
            have c_64 : 0 = 0 := n_eq c_64 (by omega) (by omega)
            refine lv_iload_n hx hb dM_compactOf_83 rfl (lv_at hl 2 rfl) ?_
            refine lv_i2l (v := lN (r_bytes α 40 0 0)) hx hb dM_compactOf_84 (nI_l (by omega)) ?_
            refine lv_bipush (v := nI 24) hx hb dM_compactOf_85 (by decide) ?_
            refine lv_lshl (v := lN ((r_bytes α 40 0 0) * 16777216)) hx hb dM_compactOf_87 (wb_shl (r_bytes α 40 0 0) (k := 24) (by omega)) ?_
            refine lv_lload_n hx hb dM_compactOf_88 rfl (lv_at hl 3 rfl) ?_
            refine lv_ladd hx hb dM_compactOf_89 ?_
            refine tp_l (y := lN (((r_bytes α 40 0 0) * 16777216) + m9)) (lN_add _ _) ?_
            exact ro_lret hQ hx hb hr hlocks dM_compactOf_90 (by unfold r_compact; rw [hr9, if_pos c_52])
          · skip
            rw [← nI_0] at c_64
            have c_64 : ¬ 0 = 0 := n_ne c_64
            omega
        · skip
          have c_52 : 8388608 ≤ m9 := l_nlt c_52 (by omega) (by omega)
          refine lv_iconst (v := nI 1) hx hb dM_compactOf_55 (by decide) ?_
          refine lv_goto (tgt := 60) hx hb dM_compactOf_56 (by decide) ?_
          refine lv_istore (lv' := [(4, .int (nI 1)), (0, .ref a), (1, .int (nI (r_bytes α 40 0 0))), (2, .long (lN m9))]) hx hb dM_compactOf_60 hl (by decide) rfl (fun ls hl => ?_)
          refine lv_iload hx hb dM_compactOf_62 (lv_at hl 0 rfl) ?_
          refine lv_if_eq (tgt := 83) hx hb dM_compactOf_64 (by decide) (fun c_64 => ?_) (fun c_64 => ?_)
          · skip
            rw [← nI_0] at c_64
            have c_64 : 1 = 0 := n_eq c_64 (by omega) (by omega)
            omega
          · skip
            rw [← nI_0] at c_64
            have c_64 : ¬ 1 = 0 := n_ne c_64
            refine lv_iload_n hx hb dM_compactOf_67 rfl (lv_at hl 2 rfl) ?_
            refine lv_i2l (v := lN (r_bytes α 40 0 0)) hx hb dM_compactOf_68 (nI_l (by omega)) ?_
            refine lv_lconst (v := lN 1) hx hb dM_compactOf_69 (by decide) ?_
            refine lv_ladd hx hb dM_compactOf_70 ?_
            refine tp_l (y := lN ((r_bytes α 40 0 0) + 1)) (lN_add _ _) ?_
            refine lv_bipush (v := nI 24) hx hb dM_compactOf_71 (by decide) ?_
            refine lv_lshl (v := lN (((r_bytes α 40 0 0) + 1) * 16777216)) hx hb dM_compactOf_73 (wb_shl ((r_bytes α 40 0 0) + 1) (k := 24) (by omega)) ?_
            refine lv_lload_n hx hb dM_compactOf_74 rfl (lv_at hl 3 rfl) ?_
            refine lv_ldc2 (v := 256) hx hb hown (hts (.constantLong RM 76 256) (by decide +kernel)) dM_compactOf_75 ?_
            refine tp_l (y := lN 256) (by decide) ?_
            refine lv_ldiv hx hb dM_compactOf_78 (l_ne0 (by omega) (by omega)) ?_
            refine tp_l (y := lN (m9 / 256)) (pk_lDiv (by omega) (by omega) (by omega)) ?_
            refine lv_ladd hx hb dM_compactOf_79 ?_
            refine tp_l (y := lN ((((r_bytes α 40 0 0) + 1) * 16777216) + (m9 / 256))) (lN_add _ _) ?_
            refine lv_goto (tgt := 90) hx hb dM_compactOf_80 (by decide) ?_
            exact ro_lret hQ hx hb hr hlocks dM_compactOf_90 (by unfold r_compact; rw [hr9, if_neg (by omega)])
      · skip
        have c_13 : k ≤ 3 := n_nlt c_13 (by omega) (by omega)
        obtain ⟨d, rfl⟩ : ∃ d' : Nat, d = d' + 1 := ⟨d - 1, by omega⟩
        refine lv_lload_n hx hb dM_compactOf_16 rfl (lv_at hl 2 rfl) ?_
        refine lv_ldc2 (v := 256) hx hb hown (hts (.constantLong RM 76 256) (by decide +kernel)) dM_compactOf_17 ?_
        refine tp_l (y := lN 256) (by decide) ?_
        refine lv_lmul hx hb dM_compactOf_20 ?_
        refine tp_l (y := lN (m9 * 256)) (lN_mul _ _) ?_
        refine lv_iload_n hx hb dM_compactOf_21 rfl (lv_at hl 1 rfl) ?_
        refine lv_iload hx hb dM_compactOf_22 (lv_at hl 3 rfl) ?_
        refine lv_isub hx hb dM_compactOf_24 ?_
        refine lv_if_lt (tgt := 37) hx hb dM_compactOf_25 (by decide) (fun c_25 => ?_) (fun c_25 => ?_)
        · skip
          have c_25 : r_bytes α 40 0 0 < k := n_sneg c_25 (by omega) (by omega)
          refine lv_iconst (v := nI 0) hx hb dM_compactOf_37 (by decide) ?_
          refine lv_i2l (v := lN 0) hx hb dM_compactOf_38 (nI_l (by omega)) ?_
          refine lv_ladd hx hb dM_compactOf_39 ?_
          refine tp_l (y := lN ((m9 * 256) + 0)) (lN_add _ _) ?_
          refine lv_lstore_n (lv' := [(2, .long (lN ((m9 * 256) + 0))), (0, .ref a), (1, .int (nI (r_bytes α 40 0 0))), (4, .int (nI k))]) hx hb dM_compactOf_40 rfl hl (by decide) rfl (fun ls hl => ?_)
          refine lv_iinc (v := nI (k + 1)) (lv' := [(4, .int (nI (k + 1))), (2, .long (lN ((m9 * 256) + 0))), (0, .ref a), (1, .int (nI (r_bytes α 40 0 0)))]) hx hb dM_compactOf_41 hl (k := 3) rfl (nI_add _ 1) (by decide) rfl (fun ls hl => ?_)
          refine lv_goto (tgt := 10) hx hb dM_compactOf_44 (by decide) ?_
          exact ih_10 d (k + 1) (m9 * 256 + 0) (by omega) (by omega) (by omega) (by rw [← hg, r_cm, if_pos c_25]) ls (lv_sub hl [2, 3, 1, 0] rfl)
        · skip
          have c_25 : k ≤ r_bytes α 40 0 0 := n_snn c_25 (by omega) (by omega)
          have hak := hα8 (r_bytes α 40 0 0 - k)
          refine lv_aload_n hx hb dM_compactOf_28 rfl (lv_at hl 0 rfl) ?_
          refine lv_iload_n hx hb dM_compactOf_29 rfl (lv_at hl 1 rfl) ?_
          refine lv_iload hx hb dM_compactOf_30 (lv_at hl 3 rfl) ?_
          refine lv_isub hx hb dM_compactOf_32 ?_
          refine tp_i (y := nI ((r_bytes α 40 0 0) - k)) (pk_sub (by omega)) ?_
          refine ar_ild (j := (r_bytes α 40 0 0) - k) hx hb hK hP 0 0 rfl rfl dM_compactOf_33 (by omega) (by omega) ?_
          refine tp_i (y := nI (α (r_bytes α 40 0 0 - k))) rfl ?_
          refine lv_goto (tgt := 38) hx hb dM_compactOf_34 (by decide) ?_
          refine lv_i2l (v := lN (α (r_bytes α 40 0 0 - k))) hx hb dM_compactOf_38 (nI_l (by omega)) ?_
          refine lv_ladd hx hb dM_compactOf_39 ?_
          refine tp_l (y := lN ((m9 * 256) + (α (r_bytes α 40 0 0 - k)))) (lN_add _ _) ?_
          refine lv_lstore_n (lv' := [(2, .long (lN ((m9 * 256) + (α (r_bytes α 40 0 0 - k))))), (0, .ref a), (1, .int (nI (r_bytes α 40 0 0))), (4, .int (nI k))]) hx hb dM_compactOf_40 rfl hl (by decide) rfl (fun ls hl => ?_)
          refine lv_iinc (v := nI (k + 1)) (lv' := [(4, .int (nI (k + 1))), (2, .long (lN ((m9 * 256) + (α (r_bytes α 40 0 0 - k))))), (0, .ref a), (1, .int (nI (r_bytes α 40 0 0)))]) hx hb dM_compactOf_41 hl (k := 3) rfl (nI_add _ 1) (by decide) rfl (fun ls hl => ?_)
          refine lv_goto (tgt := 10) hx hb dM_compactOf_44 (by decide) ?_
          exact ih_10 d (k + 1) (m9 * 256 + α (r_bytes α 40 0 0 - k)) (by omega) (by omega) (by omega) (by rw [← hg, r_cm, if_neg (by omega)]) ls (lv_sub hl [2, 3, 1, 0] rfl)
  exact lp_10 4 3 1 0 (by omega) (by omega) (by omega) rfl ls (lv_sub hl [3, 2, 1, 0] rfl)

abbrev rm_k_isBits_ok : Room := { frames := 0, cells := 0, slots := 0, locals := 0 }
set_option maxRecDepth 100000 in
set_option maxHeartbeats 4000000 in
theorem k_isBits_ok (l : Launch) (D : va_G) (cI cJ cZ : ClassId) (v : Nat) (hv : v < 4294967296) : ro_C l yM_isBits wM_isBits rm_k_isBits_ok D vwCl (gT cI cJ cZ) [.long (lN v)] [] (some (.int (nI 1))) := by
  refine ro_of (cc := cM_isBits) (maxL := 2) (ret := some .boolean) (by decide) rfl (Nat.le_of_ble_eq_true rfl) ?_
  intro p e s m args below meth c Q ls hx hb hr hml hown hts hlocks hK hP hl hQ
  have hl : lv_has ls 2 [(0, .long (lN v))] := hl
  have hown : s.vm.findClass RM = some m.cls := hown
  refine lv_lload_n hx hb dM_isBits_0 rfl (lv_at hl 0 rfl) ?_
  refine lv_lconst (v := lN 0) hx hb dM_isBits_1 (by decide) ?_
  refine lc_lt (tgt := 18) hx hb dM_isBits_2 dM_isBits_3 (by decide) (fun c_3 => ?_) (fun c_3 => ?_)
  · skip
    have c_3 : v < 0 := l_lt c_3 (by omega) (by omega)
    omega
  · skip
    have c_3 : 0 ≤ v := l_nlt c_3 (by omega) (by omega)
    refine lv_lload_n hx hb dM_isBits_6 rfl (lv_at hl 0 rfl) ?_
    refine lv_ldc2 (v := 4294967295) hx hb hown (hts (.constantLong RM 46 4294967295) (by decide +kernel)) dM_isBits_7 ?_
    refine tp_l (y := lN 4294967295) (by decide) ?_
    refine lc_gt (tgt := 18) hx hb dM_isBits_10 dM_isBits_11 (by decide) (fun c_11 => ?_) (fun c_11 => ?_)
    · skip
      have c_11 : 4294967295 < v := l_lt c_11 (by omega) (by omega)
      omega
    · skip
      have c_11 : v ≤ 4294967295 := l_nlt c_11 (by omega) (by omega)
      refine lv_iconst (v := nI 1) hx hb dM_isBits_14 (by decide) ?_
      refine lv_goto (tgt := 19) hx hb dM_isBits_15 (by decide) ?_
      exact ro_zret hQ hx hb hr hlocks dM_isBits_19 rfl rfl

abbrev rm_k_isBits_no : Room := { frames := 0, cells := 0, slots := 0, locals := 0 }
set_option maxRecDepth 100000 in
set_option maxHeartbeats 4000000 in
theorem k_isBits_no (l : Launch) (D : va_G) (cI cJ cZ : ClassId) (b : Int64) (hb9 : ¬ (0 ≤ b ∧ b ≤ 4294967295)) : ro_C l yM_isBits wM_isBits rm_k_isBits_no D vwCl (gT cI cJ cZ) [.long b] [] (some (.int (nI 0))) := by
  refine ro_of (cc := cM_isBits) (maxL := 2) (ret := some .boolean) (by decide) rfl (Nat.le_of_ble_eq_true rfl) ?_
  intro p e s m args below meth c Q ls hx hb hr hml hown hts hlocks hK hP hl hQ
  have hl : lv_has ls 2 [(0, .long b)] := hl
  have hown : s.vm.findClass RM = some m.cls := hown
  refine lv_lload_n hx hb dM_isBits_0 rfl (lv_at hl 0 rfl) ?_
  refine lv_lconst (v := 0) hx hb dM_isBits_1 (by decide) ?_
  refine lc_lt (tgt := 18) hx hb dM_isBits_2 dM_isBits_3 (by decide) (fun c_3 => ?_) (fun c_3 => ?_)
  · skip
    refine lv_iconst (v := nI 0) hx hb dM_isBits_18 (by decide) ?_
    exact ro_zret hQ hx hb hr hlocks dM_isBits_19 rfl rfl
  · skip
    refine lv_lload_n hx hb dM_isBits_6 rfl (lv_at hl 0 rfl) ?_
    refine lv_ldc2 (v := 4294967295) hx hb hown (hts (.constantLong RM 46 4294967295) (by decide +kernel)) dM_isBits_7 ?_
    refine lc_gt (tgt := 18) hx hb dM_isBits_10 dM_isBits_11 (by decide) (fun c_11 => ?_) (fun c_11 => ?_)
    · skip
      refine lv_iconst (v := nI 0) hx hb dM_isBits_18 (by decide) ?_
      exact ro_zret hQ hx hb hr hlocks dM_isBits_19 rfl rfl
    · skip
      exact absurd ⟨Int64.not_lt.mp c_3, Int64.not_lt.mp c_11⟩ hb9

abbrev rm_k_longOf : Room := { frames := 0, cells := 0, slots := 0, locals := 0 }
set_option maxRecDepth 100000 in
set_option maxHeartbeats 4000000 in
theorem k_longOf (l : Launch) (D : va_G) (cI cJ cZ : ClassId) (a : Nat) (ln : Nat) (α : Nat → Nat) (at9 : Nat) (k : Nat) (hα8 : by8 α) (hk3 : k < 4) (hat : at9 + 40 ≤ ln) (hln : ln ≤ 12000) : ro_C l yM_longOf wM_longOf rm_k_longOf D vwCl (gT cI cJ cZ) [.ref a, .int (nI at9), .int (nI k)] [(a, .inl (cI, ln, .inl (nF α)))] (some (.long (lN (r_lo α (at9 + 8 * (3 - k)) 8 0)))) := by
  refine ro_of (cc := cM_longOf) (maxL := 6) (ret := some .long) (by decide) rfl (Nat.le_of_ble_eq_true rfl) ?_
  intro p e s m args below meth c Q ls hx hb hr hml hown hts hlocks hK hP hl hQ
  have hl : lv_has ls 6 [(0, .ref a), (1, .int (nI at9)), (2, .int (nI k))] := hl
  have hown : s.vm.findClass RM = some m.cls := hown
  refine lv_lconst (v := lN 0) hx hb dM_longOf_0 (by decide) ?_
  refine lv_lstore_n (lv' := [(3, .long (lN 0)), (0, .ref a), (1, .int (nI at9)), (2, .int (nI k))]) hx hb dM_longOf_1 rfl hl (by decide) rfl (fun ls hl => ?_)
  refine lv_bipush (v := nI 7) hx hb dM_longOf_2 (by decide) ?_
  refine lv_istore (lv' := [(5, .int (nI 7)), (3, .long (lN 0)), (0, .ref a), (1, .int (nI at9)), (2, .int (nI k))]) hx hb dM_longOf_4 hl (by decide) rfl (fun ls hl => ?_)
  have lp_6 : ∀ (n_6 : Nat) (K : Nat) (i : Int32) (v : Nat), (K < n_6) → (K ≤ 8) → (i = nI K + (-1)) → (v < 256 ^ (8 - K)) → (r_lo α (at9 + 8 * (3 - k)) K v = r_lo α (at9 + 8 * (3 - k)) 8 0) → ∀ (ls : Array Slot), lv_has ls 6 [(0, .ref a), (1, .int (nI at9)), (2, .int (nI k)), (3, .long (lN v)), (5, .int i)] → W p l e rm_k_longOf s m args below meth c s.heap [] 0 0 Q (F0 m 6 ls []) := by
    intro n_6
    induction n_6 with
    | zero => intro K i v hn h8 hi hv9 hg ls hl; exact absurd hn (by omega)
    | succ n_6 ih_6 =>
      intro K i v hn h8 hi hv9 hg ls hl
      refine lv_iload hx hb dM_longOf_6 (lv_at hl 4 rfl) ?_
      refine lv_if_lt (tgt := 37) hx hb dM_longOf_8 (by decide) (fun c_8 => ?_) (fun c_8 => ?_)
      · skip
        have hk0 : K = 0 := dn_0 hi c_8 (by omega)
        subst hk0
        refine lv_lload_n hx hb dM_longOf_37 rfl (lv_at hl 3 rfl) ?_
        exact ro_lret hQ hx hb hr hlocks dM_longOf_38 (by rw [← hg]; rfl)
      · skip
        obtain ⟨j, rfl, rfl⟩ := dn_s hi c_8
        refine lv_lload_n hx hb dM_longOf_11 rfl (lv_at hl 3 rfl) ?_
        refine lv_bipush (v := nI 8) hx hb dM_longOf_12 (by decide) ?_
        refine lv_lshl (v := j_shl (lN v) (nI 8)) hx hb dM_longOf_14 rfl ?_
        refine lv_aload_n hx hb dM_longOf_15 rfl (lv_at hl 0 rfl) ?_
        refine lv_iload_n hx hb dM_longOf_16 rfl (lv_at hl 1 rfl) ?_
        refine lv_bipush (v := nI 8) hx hb dM_longOf_17 (by decide) ?_
        refine lv_iconst (v := nI 3) hx hb dM_longOf_19 (by decide) ?_
        refine lv_iload_n hx hb dM_longOf_20 rfl (lv_at hl 2 rfl) ?_
        refine lv_isub hx hb dM_longOf_21 ?_
        refine tp_i (y := nI (3 - k)) (pk_sub (by omega)) ?_
        refine lv_imul hx hb dM_longOf_22 ?_
        refine tp_i (y := nI (8 * (3 - k))) (pk_mul _ _) ?_
        refine lv_iadd hx hb dM_longOf_23 ?_
        refine tp_i (y := nI (at9 + (8 * (3 - k)))) (nI_add _ _) ?_
        refine lv_iload hx hb dM_longOf_24 (lv_at hl 4 rfl) ?_
        refine lv_iadd hx hb dM_longOf_26 ?_
        refine tp_i (y := nI ((at9 + (8 * (3 - k))) + j)) (nI_add _ _) ?_
        refine ar_ild (j := (at9 + (8 * (3 - k))) + j) hx hb hK hP 0 0 rfl rfl dM_longOf_27 (by omega) (by omega) ?_
        refine tp_i (y := nI (α (at9 + 8 * (3 - k) + j))) rfl ?_
        have haj := hα8 (at9 + 8 * (3 - k) + j)
        refine lv_i2l (v := lN (α (at9 + 8 * (3 - k) + j))) hx hb dM_longOf_28 (nI_l (by omega)) ?_
        refine lv_lor hx hb dM_longOf_29 ?_
        refine tp_l (y := lN (v * 256 + α (at9 + 8 * (3 - k) + j))) (lo_or hv9 (by omega) (hα8 _)) ?_
        refine lv_lstore_n (lv' := [(3, .long (lN (v * 256 + α (at9 + 8 * (3 - k) + j)))), (0, .ref a), (1, .int (nI at9)), (2, .int (nI k)), (5, .int (nI j))]) hx hb dM_longOf_30 rfl hl (by decide) rfl (fun ls hl => ?_)
        refine lv_iinc (v := (nI j) + (-1)) (lv' := [(5, .int ((nI j) + (-1))), (3, .long (lN (v * 256 + α (at9 + 8 * (3 - k) + j)))), (0, .ref a), (1, .int (nI at9)), (2, .int (nI k))]) hx hb dM_longOf_31 hl (k := 4) rfl rfl (by decide) rfl (fun ls hl => ?_)
        refine lv_goto (tgt := 6) hx hb dM_longOf_34 (by decide) ?_
        exact ih_6 j ((nI j) + (-1)) (v * 256 + α (at9 + 8 * (3 - k) + j)) (by omega) (by omega) rfl (lo_s hv9 (by omega) (hα8 _)) hg ls (lv_sub hl [2, 3, 4, 1, 0] rfl)
  exact lp_6 9 8 (nI 7) 0 (by omega) (by omega) (pk_m1 7).symm (by decide) rfl ls (lv_sub hl [2, 3, 4, 1, 0] rfl)
