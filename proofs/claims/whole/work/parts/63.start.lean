set_option maxRecDepth 100000 in
set_option maxHeartbeats 4000000 in
/-- THE LAW'S LOOP: at its head class and reference are alike -/
theorem law_loop {p : Program} {l : Launch} {e : Env} {s : State} {m : MethodId} {below : List Frame} {meth : Method} {c : Code} {b L : Nat} {xs : Nat → Int32} (hL : L ≤ 4610) (C0 : lw_At p s m meth c b L xs) {D : va_G} {cI cJ cZ : ClassId} (hK : va_K D vwCl (gT cI cJ cZ) s) {cells slots : Nat} (hcs : cells ≤ 600000 ∧ slots ≤ 7302250) {rm : Nat} {ad ae : Nat → Nat} : ∀ (n i : Nat), i ≤ L + 9 → L + 20 ≤ i + n → ∀ (H : Heap) (locs : List Loc), LwI D cI cJ cZ s rm ad ae H locs → ∀ (ls : Array Slot), lv_has ls 4 [(0, .ref b), (1, .ref (ad 0)), (2, .ref (ae 0)), (3, .int (nI i))] → W p l e room_1 s m #[Value.ref b] below meth c H locs cells slots (lw_Z below #[Value.ref b] s) (F0 m 38 ls []) := by
  obtain ⟨hx, hb, hr, hml, hown, hts0, hX, hbl, hlocks, hgv⟩ := id C0
  have hbA : ¬ (fun q : Nat => s.heap.size ≤ q) b := Nat.not_le.mpr hbl
  intro n
  induction n with
  | zero => intro i h1 h2; exact absurd h2 (by omega)
  | succ n ih =>
    intro i hi0 hin H locs hJ ls hl
    have hS : va_S (fun q : Nat => s.heap.size ≤ q) s.heap H locs := by
      obtain ⟨_, _, _, _, _, _, _, _, _, _, _, _, _, _, _, _, _, _, _, _, _, _, _, _, _, _, hS⟩ := hJ
      exact hS
    refine lv_iload_n hx hb dL_law_38 rfl (lv_at hl 3 rfl) ?_
    refine lv_aload_n hx hb dL_law_39 rfl (lv_at hl 0 rfl) ?_
    refine va_slen hx hb hX hbl hbA hS dL_law_40 ?_
    refine tp_i (y := nI L) rfl ?_
    refine lv_bipush (v := nI 9) hx hb dL_law_41 (by decide) ?_
    refine lv_isub hx hb dL_law_43 ?_
    refine lv_icmp_gt (tgt := 831) hx hb dL_law_44 (by decide) (fun c_44 => ?_) (fun c_44 => ?_)
    · refine lv_iconst (v := 1) hx hb dL_law_831 (by decide) ?_
      refine va_forget (fun q hq => hS.2.2 q hq) ?_
      refine W.widen (k := 600000) (n := 7302250) hcs.1 hcs.2 ?_
      exact lw_ret hx hb hr hlocks dL_law_832
    · have hi : i + 9 ≤ L := lw_guard hL (by omega) c_44
      refine lv_aload_n hx hb dL_law_47 rfl (lv_at hl 0 rfl) ?_
      refine lv_iload_n hx hb dL_law_48 rfl (lv_at hl 3 rfl) ?_
      refine sc_ld (j := i) hx hb hX hbl hbA hS dL_law_49 (by omega) (by omega) ?_
      refine lv_bipush (v := nI 15) hx hb dL_law_50 (by decide) ?_
      refine lv_iand hx hb dL_law_52 ?_
      obtain ⟨k, hk, ek⟩ := and_15 (xs i)
      refine tp_i ek ?_
      have k825 : ∀ (H : Heap) (locs : List Loc), LwI D cI cJ cZ s rm ad ae H locs → ∀ (ls : Array Slot), lv_has ls 4 [(0, .ref b), (1, .ref (ad 0)), (2, .ref (ae 0)), (3, .int (nI i))] → W p l e room_1 s m #[Value.ref b] below meth c H locs cells slots (lw_Z below #[Value.ref b] s) (F0 m 825 ls []) := by
        intro H locs hJ ls hl
        refine lv_iinc (v := nI (i + 9)) (lv' := [(3, .int (nI (i + 9))), (0, .ref b), (1, .ref (ad 0)), (2, .ref (ae 0))]) hx hb dL_law_825 hl (k := 3) rfl (nI_add _ 9) (by decide) rfl (fun ls hl => ?_)
        refine lv_goto (tgt := 38) hx hb dL_law_828 (by decide) ?_
        exact ih (i + 9) (by omega) (by omega) H locs hJ ls (lv_sub hl [1, 2, 3, 0] rfl)
      rcases (show k = 0 ∨ k = 1 ∨ k = 2 ∨ k = 3 ∨ k = 4 ∨ k = 5 ∨ k = 6 ∨ k = 7 ∨ k = 8 ∨ k = 9 ∨ k = 10 ∨ k = 11 ∨ k = 12 ∨ k = 13 ∨ k = 14 ∨ k = 15 by omega) with rfl | rfl | rfl | rfl | rfl | rfl | rfl | rfl | rfl | rfl | rfl | rfl | rfl | rfl | rfl | rfl
      · refine lv_tableIn (tgt := 128) (off := 75) hx hb dL_law_53 (by decide) (by decide) (by decide) (by decide) ?_
        exact lc_add hL C0 hK hcs hi hJ hl k825
      · refine lv_tableIn (tgt := 231) (off := 178) hx hb dL_law_53 (by decide) (by decide) (by decide) (by decide) ?_
        exact lc_spoil hL C0 hK hcs hi hJ hl k825
      · refine lv_tableIn (tgt := 254) (off := 201) hx hb dL_law_53 (by decide) (by decide) (by decide) (by decide) ?_
        exact lc_must hL C0 hK hcs hi hJ hl k825
      · refine lv_tableIn (tgt := 278) (off := 225) hx hb dL_law_53 (by decide) (by decide) (by decide) (by decide) ?_
        exact lc_median hL C0 hK hcs hi hJ hl k825
      · refine lv_tableIn (tgt := 302) (off := 249) hx hb dL_law_53 (by decide) (by decide) (by decide) (by decide) ?_
        exact lc_look hL C0 hK hcs hi hJ hl k825
      · refine lv_tableIn (tgt := 336) (off := 283) hx hb dL_law_53 (by decide) (by decide) (by decide) (by decide) ?_
        exact lc_work hL C0 hK hcs hi hJ hl k825
      · refine lv_tableIn (tgt := 370) (off := 317) hx hb dL_law_53 (by decide) (by decide) (by decide) (by decide) ?_
        exact lc_compare hL C0 hK hcs hi hJ hl k825
      · refine lv_tableIn (tgt := 403) (off := 350) hx hb dL_law_53 (by decide) (by decide) (by decide) (by decide) ?_
        exact lc_tip hL C0 hK hcs hi hJ hl k825
      · refine lv_tableIn (tgt := 416) (off := 363) hx hb dL_law_53 (by decide) (by decide) (by decide) (by decide) ?_
        exact lc_size hL C0 hK hcs hi hJ hl k825
      · refine lv_tableIn (tgt := 429) (off := 376) hx hb dL_law_53 (by decide) (by decide) (by decide) (by decide) ?_
        exact lc_below hL C0 hK hcs hi hJ hl k825
      · refine lv_tableIn (tgt := 462) (off := 409) hx hb dL_law_53 (by decide) (by decide) (by decide) (by decide) ?_
        exact lc_fork hL C0 hK hcs hi hJ hl k825
      · refine lv_tableIn (tgt := 495) (off := 442) hx hb dL_law_53 (by decide) (by decide) (by decide) (by decide) ?_
        exact lc_row hL C0 hK hcs hi hJ hl k825
      · refine lv_tableIn (tgt := 528) (off := 475) hx hb dL_law_53 (by decide) (by decide) (by decide) (by decide) ?_
        exact lc_fault hL C0 hK hcs hi hJ hl k825
      · refine lv_tableIn (tgt := 581) (off := 528) hx hb dL_law_53 (by decide) (by decide) (by decide) (by decide) ?_
        exact lc_target hL C0 hK hcs hi hJ hl k825
      · refine lv_tableIn (tgt := 645) (off := 592) hx hb dL_law_53 (by decide) (by decide) (by decide) (by decide) ?_
        exact lc_compact hL C0 hK hcs hi hJ hl k825
      · refine lv_tableOut (tgt := 825) hx hb dL_law_53 (by decide) (by decide) ?_
        exact k825 H locs hJ ls hl

theorem arr_K {s : State} {args : Array Value} {ty : FieldType} (h : (Cond.arrayClass ty).before args s = true) : ∃ cA : ClassId, ArrOfT s cA ty ∧ s.vm.findClass ("[" ++ ty.toString) = some cA := by
  obtain ⟨cA, kA, comp, h1, h2, h3⟩ := Cond.arrayClass_spec h
  exact ⟨cA, fun n z => ⟨fun k h => (by cases h), kA, h2, comp, h3⟩, h1⟩
set_option maxRecDepth 100000 in
set_option maxHeartbeats 4000000 in
/-- THE LAW, from its entry -/
theorem whole_start {p : Program} {e : Env} {s : State} {m : MethodId} {below : List Frame} {meth : Method} {c : Code} (l : Launch) {b L : Nat} {xs : Nat → Int32} (hL : L ≤ 4610) (C0 : lw_At p s m meth c b L xs) : W p l e room_1 s m #[Value.ref b] below meth c s.heap [] 0 0 (lw_Z below #[Value.ref b] s) (entryFrame m ([Value.ref b] : List Value).toArray 4) := by
  obtain ⟨hx, hb, hr, hml, hown, hts0, hX, hbl, hlocks, hgv⟩ := id C0
  have hts : ∀ w ∈ wLw, w.before #[Value.ref b] s = true := fun w h => hts0 w (inLw w h)
  have hA : ∀ q : Nat, s.heap.size ≤ q → (fun q : Nat => s.heap.size ≤ q) q := fun _ h => h
  have hbA : ¬ (fun q : Nat => s.heap.size ≤ q) b := Nat.not_le.mpr hbl
  have h44 : va_Nw (.methodLinkNest RT 44 yR_init RT) s := va_Nw.of rfl (hts0 (.methodLinkNest RT 44 yR_init RT) (by decide +kernel))
  have h51 : va_Nw (.methodLinkNest RT 51 yW_init RT) s := va_Nw.of rfl (hts0 (.methodLinkNest RT 51 yW_init RT) (by decide +kernel))
  obtain ⟨cI, aI, fI⟩ := arr_K (hts (.arrayClass .int) (by decide +kernel))
  obtain ⟨cJ, aJ, fJ⟩ := arr_K (hts (.arrayClass .long) (by decide +kernel))
  obtain ⟨cZ, aZ, fZ⟩ := arr_K (hts (.arrayClass .boolean) (by decide +kernel))
  obtain ⟨c0, iS0, hKn0⟩ := u_known (C := RR) (T := TR) (N := 1) (n := 1) hts iLw_R (hts (.instantiable RR 1) (by decide +kernel))
  obtain ⟨c1, iS1, hKn1⟩ := u_known (C := RW) (T := TW) (N := 4) (n := 4) hts iLw_W (hts (.instantiable RW 4) (by decide +kernel))
  obtain ⟨c2, iS2, hKn2⟩ := u_known (C := RT) (T := TT) (N := 13) (n := 13) hts iLw_T (hts (.instantiable RT 13) (by decide +kernel))
  obtain ⟨c3, iS3, hKn3⟩ := u_known (C := RM) (T := TM) (N := 12) (n := 12) hts iLw_M (hts (.instantiable RM 12) (by decide +kernel))
  obtain ⟨D, hKc⟩ : ∃ D : va_G, ∀ (k : Nat) (q : vw_C), vwCl[k]? = some q → u_Kn s q.1 q.2.1 q.2.2 (D.1 k) (D.2 k) := by
    refine ⟨(fun k => if k = 0 then c0 else if k = 1 then c1 else if k = 2 then c2 else c3, fun k => if k = 0 then iS0 else if k = 1 then iS1 else if k = 2 then iS2 else iS3), ?_⟩
    intro k q hq
    match k, hq with
    | 0, hq => cases hq; exact hKn0
    | 1, hq => cases hq; exact hKn1
    | 2, hq => cases hq; exact hKn2
    | 3, hq => cases hq; exact hKn3
    | k + 4, hq => simp [vwCl] at hq
  have hS : va_S (fun q : Nat => s.heap.size ≤ q) s.heap s.heap [] := va_S.rf
  have hK : va_K D vwCl (gT cI cJ cZ) s := ⟨hKc, fun k q h => by
    match k, h with
    | 0, h => cases h; exact ⟨aI, fI⟩
    | 1, h => cases h; exact ⟨aJ, fJ⟩
    | 2, h => cases h; exact ⟨aZ, fZ⟩
    | k + 3, h => simp at h⟩
  have hP : va_P D vwCl [] s.heap := fun k q h => by simp at h
  have hD : va_D (fun q : Nat => s.heap.size ≤ q) [] := ⟨fun i j p q h => by simp at h, fun k q h => by simp at h⟩
  obtain ⟨rm, hI, mkT, mkM⟩ := mk_both l D cI cJ cZ (if 0 < L then xs 0 else 0) (if 1 < L then xs 1 else 0)
  have hl := lv_entry ([.ref b]) (n := 4) (Nat.le_of_ble_eq_true rfl)
  rw [lg_entry_eq]
  generalize (lg_sl ([.ref b]) ++ List.replicate (4 - (lg_sl ([.ref b])).length) Slot.unset).toArray = ls at hl ⊢
  have hl : lv_has ls 4 [(0, .ref b)] := hl
  refine va_new (ci := 2) (fs := [.int 0, .int 0, .int 0, .null, .null, .null, .null, .null, .null, .null, .null, .null, .null]) (C := RT) (T := TT) (N := 13) hx hb hts iLw_T tyT tyT_ok hown (hts (.classLink RL 7 RT) (by decide +kernel)) (hts (.instantiable RT 13) (by decide +kernel)) (hts (.initialized RT) (by decide +kernel)) hK hP hD hS hA rfl (fun j hj => by rcases (show j = 0 ∨ j = 1 ∨ j = 2 ∨ j = 3 ∨ j = 4 ∨ j = 5 ∨ j = 6 ∨ j = 7 ∨ j = 8 ∨ j = 9 ∨ j = 10 ∨ j = 11 ∨ j = 12 by omega) with rfl | rfl | rfl | rfl | rfl | rfl | rfl | rfl | rfl | rfl | rfl | rfl | rfl <;> rfl) (Nat.le_of_ble_eq_true rfl) (Nat.le_of_ble_eq_true rfl) dL_law_0 (fun q0 H hP hD hS => ?_)
  have hP : va_P D vwCl [(q0, oT0)] H := hP
  have hD : va_D (fun q : Nat => s.heap.size ≤ q) [(q0, oT0)] := hD
  refine lv_dup hx hb dL_law_3 rfl ?_
  refine lv_aload_n hx hb dL_law_4 rfl (lv_at hl 0 rfl) ?_
  refine lv_iconst (v := nI 0) hx hb dL_law_5 (by decide) ?_
  refine ro_ki (va_runS (As := [.ref b, .int (nI 0)]) (rest := [.ref q0, .ref q0]) ⟨hx, hb, hml, hown, hts⟩ (c_cell l b L xs 0 hL (by omega)) (va_cwS 2 hts gLw_L_cell_9 rfl rfl rfl (by decide +kernel) ⟨Nat.le_of_ble_eq_true rfl, Nat.le_of_ble_eq_true rfl⟩) (cell_pre (hX.kept (hS.2.1 b hbl hbA))) rfl rfl hl.1 rfl (lv_room (Nat.le_of_ble_eq_true rfl)) dL_law_6 ⟨Nat.le_of_ble_eq_true rfl, Nat.le_of_ble_eq_true rfl⟩) ?_
  refine lv_aload_n hx hb dL_law_9 rfl (lv_at hl 0 rfl) ?_
  refine lv_iconst (v := nI 1) hx hb dL_law_10 (by decide) ?_
  refine ro_ki (va_runS (As := [.ref b, .int (nI 1)]) (rest := [.int (if 0 < L then xs 0 else 0), .ref q0, .ref q0]) ⟨hx, hb, hml, hown, hts⟩ (c_cell l b L xs 1 hL (by omega)) (va_cwS 2 hts gLw_L_cell_9 rfl rfl rfl (by decide +kernel) ⟨Nat.le_of_ble_eq_true rfl, Nat.le_of_ble_eq_true rfl⟩) (cell_pre (hX.kept (hS.2.1 b hbl hbA))) rfl rfl hl.1 rfl (lv_room (Nat.le_of_ble_eq_true rfl)) dL_law_11 ⟨Nat.le_of_ble_eq_true rfl, Nat.le_of_ble_eq_true rfl⟩) ?_
  refine rw_k (post := CMade cI cJ cZ rm q0 (if 1 < L then xs 1 else 0)) (wc := [(q0, oT0)]) (wr := []) (va_runI (As := [.int (if 0 < L then xs 0 else 0), .int (if 1 < L then xs 1 else 0)]) (rest := [.ref q0]) ⟨hx, hb, hml, hown, hts⟩ (mkT q0 H.size) (cwI 2 hts ggLw_T_init rfl rfl rfl (hts (.initialized RT) (by decide +kernel)) (hts (.methodLink RL 15 yT_init) (by decide +kernel)) (hts (.instanceMethod yT_init) (by decide +kernel)) rfl (by decide +kernel) ⟨Nat.le_of_ble_eq_true rfl, Nat.le_of_ble_eq_true rfl⟩) (rx_preS (fun u U h q => ⟨va_Nw.same rfl h q.1, va_Nw.same rfl h q.2⟩) (fun U hW => ⟨va_Nw.warmM hW h44, va_Nw.warmM hW h51⟩) hP hK hD) rfl rfl hl.1 rfl (lv_room (Nat.le_of_ble_eq_true rfl)) dL_law_14 ⟨Nat.le_of_ble_eq_true rfl, Nat.le_of_ble_eq_true rfl⟩) hP hD hS hA [0] [] rfl rfl (by decide) (by decide) (fun v9 w9 H locs hp9 hP hD hS => ?_)
  obtain ⟨rfl, ad, had, Ch, Wk, Rk, pr, kn, fd, fr, fq, hC, rfl⟩ := hp9
  have hP : va_P D vwCl (TDW cI cJ cZ ad rm 1 0 z0 z0 Ch (Tm0 (if 1 < L then xs 1 else 0)) Bt0 z0 Wk Rk pr kn fd fr fq) H := hP
  have hD : va_D (fun q : Nat => s.heap.size ≤ q) (TDW cI cJ cZ ad rm 1 0 z0 z0 Ch (Tm0 (if 1 < L then xs 1 else 0)) Bt0 z0 Wk Rk pr kn fd fr fq) := hD
  refine W.eq (g2 := F0 m 17 ls [.ref (ad 0)]) (by first | (rw [had]; done) | (rw [had]; rfl)) ?_
  refine lv_astore_n (lv' := [(1, .ref (ad 0)), (0, .ref b)]) hx hb dL_law_17 rfl hl (by decide) rfl (fun ls hl => ?_)
  refine va_new (ci := 3) (fs := [.int 0, .int 0, .null, .null, .null, .null, .null, .null, .null, .null, .null, .null]) (C := RM) (T := TM) (N := 12) hx hb hts iLw_M tyM tyM_ok hown (hts (.classLink RL 18 RM) (by decide +kernel)) (hts (.instantiable RM 12) (by decide +kernel)) (hts (.initialized RM) (by decide +kernel)) hK hP hD hS hA rfl (fun j hj => by rcases (show j = 0 ∨ j = 1 ∨ j = 2 ∨ j = 3 ∨ j = 4 ∨ j = 5 ∨ j = 6 ∨ j = 7 ∨ j = 8 ∨ j = 9 ∨ j = 10 ∨ j = 11 by omega) with rfl | rfl | rfl | rfl | rfl | rfl | rfl | rfl | rfl | rfl | rfl | rfl <;> rfl) (Nat.le_of_ble_eq_true rfl) (Nat.le_of_ble_eq_true rfl) dL_law_18 (fun q1 H hP hD hS => ?_)
  have hP : va_P D vwCl ((TDW cI cJ cZ ad rm 1 0 z0 z0 Ch (Tm0 (if 1 < L then xs 1 else 0)) Bt0 z0 Wk Rk pr kn fd fr fq) ++ [(q1, oM0)]) H := hP
  have hD : va_D (fun q : Nat => s.heap.size ≤ q) ((TDW cI cJ cZ ad rm 1 0 z0 z0 Ch (Tm0 (if 1 < L then xs 1 else 0)) Bt0 z0 Wk Rk pr kn fd fr fq) ++ [(q1, oM0)]) := hD
  refine lv_dup hx hb dL_law_21 rfl ?_
  refine lv_aload_n hx hb dL_law_22 rfl (lv_at hl 1 rfl) ?_
  refine lv_iconst (v := nI 0) hx hb dL_law_23 (by decide) ?_
  refine ro_ki (va_runS (As := [.ref b, .int (nI 0)]) (rest := [.ref q1, .ref q1]) ⟨hx, hb, hml, hown, hts⟩ (c_cell l b L xs 0 hL (by omega)) (va_cwS 2 hts gLw_L_cell_9 rfl rfl rfl (by decide +kernel) ⟨Nat.le_of_ble_eq_true rfl, Nat.le_of_ble_eq_true rfl⟩) (cell_pre (hX.kept (hS.2.1 b hbl hbA))) rfl rfl hl.1 rfl (lv_room (Nat.le_of_ble_eq_true rfl)) dL_law_24 ⟨Nat.le_of_ble_eq_true rfl, Nat.le_of_ble_eq_true rfl⟩) ?_
  refine lv_aload_n hx hb dL_law_27 rfl (lv_at hl 1 rfl) ?_
  refine lv_iconst (v := nI 1) hx hb dL_law_28 (by decide) ?_
  refine ro_ki (va_runS (As := [.ref b, .int (nI 1)]) (rest := [.int (if 0 < L then xs 0 else 0), .ref q1, .ref q1]) ⟨hx, hb, hml, hown, hts⟩ (c_cell l b L xs 1 hL (by omega)) (va_cwS 2 hts gLw_L_cell_9 rfl rfl rfl (by decide +kernel) ⟨Nat.le_of_ble_eq_true rfl, Nat.le_of_ble_eq_true rfl⟩) (cell_pre (hX.kept (hS.2.1 b hbl hbA))) rfl rfl hl.1 rfl (lv_room (Nat.le_of_ble_eq_true rfl)) dL_law_29 ⟨Nat.le_of_ble_eq_true rfl, Nat.le_of_ble_eq_true rfl⟩) ?_
  refine rw_k (post := MMade cI cJ cZ rm q1 (if 1 < L then xs 1 else 0)) (wc := [(q1, oM0)]) (wr := (TDW cI cJ cZ ad rm 1 0 z0 z0 Ch (Tm0 (if 1 < L then xs 1 else 0)) Bt0 z0 Wk Rk pr kn fd fr fq)) (va_runI (As := [.int (if 0 < L then xs 0 else 0), .int (if 1 < L then xs 1 else 0)]) (rest := [.ref q1]) ⟨hx, hb, hml, hown, hts⟩ (mkM q1 H.size) (cwI 2 hts ggLw_M_init rfl rfl rfl (hts (.initialized RM) (by decide +kernel)) (hts (.methodLink RL 20 yM_init) (by decide +kernel)) (hts (.instanceMethod yM_init) (by decide +kernel)) rfl (by decide +kernel) ⟨Nat.le_of_ble_eq_true rfl, Nat.le_of_ble_eq_true rfl⟩) (rw_preS (hP.sub [15] rfl) hK (hD.sub [15] (by decide) rfl)) rfl rfl hl.1 rfl (lv_room (Nat.le_of_ble_eq_true rfl)) dL_law_32 ⟨Nat.le_of_ble_eq_true rfl, Nat.le_of_ble_eq_true rfl⟩) hP hD hS hA [15] [0, 1, 2, 3, 4, 5, 6, 7, 8, 9, 10, 11, 12, 13, 14] rfl rfl (by decide) (by decide) (fun v9 w9 H locs hp9 hP hD hS => ?_)
  obtain ⟨rfl, ae, hae, Sm, α, β, γ, Rk2, hM, rfl⟩ := hp9
  refine W.eq (g2 := F0 m 35 ls [.ref (ae 0)]) (by first | (rw [hae]; done) | (rw [hae]; rfl)) ?_
  refine lv_astore_n (lv' := [(2, .ref (ae 0)), (1, .ref (ad 0)), (0, .ref b)]) hx hb dL_law_35 rfl hl (by decide) rfl (fun ls hl => ?_)
  refine lv_iconst (v := nI 2) hx hb dL_law_36 (by decide) ?_
  refine lv_istore_n (lv' := [(3, .int (nI 2)), (2, .ref (ae 0)), (1, .ref (ad 0)), (0, .ref b)]) hx hb dL_law_37 rfl hl (by decide) rfl (fun ls hl => ?_)
  exact law_loop (ad := ad) (ae := ae) (rm := rm) hL C0 hK ⟨Nat.le_of_ble_eq_true rfl, Nat.le_of_ble_eq_true rfl⟩ (L + 20) 2 (by omega) (by omega) H locs ⟨1, 0, z0, z0, Ch, Tm0 (if 1 < L then xs 1 else 0), Bt0, z0, val0, Wk, Rk, pr, kn, fd, fr, fq, Sm, α, β, γ, Rk2, hI, hC, hM, hP, hD, hS⟩ ls (lv_sub hl [3, 2, 1, 0] rfl)
