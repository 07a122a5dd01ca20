set_option maxRecDepth 100000 in
set_option maxHeartbeats 4000000 in
theorem lc_add {p : Program} {l : Launch} {e : Env} {s : State} {m : MethodId} {below : List Frame} {meth : Method} {c : Code} {b L : Nat} {xs : Nat → Int32} (hL : L ≤ 4610) (C0 : lw_At p s m meth c b L xs) {D : va_G} {cI cJ cZ : ClassId} (hK : va_K D vwCl (gT cI cJ cZ) s) {cells slots : Nat} (hcs : cells ≤ 600000 ∧ slots ≤ 7302250) {Q : State → Prop} {rm i : Nat} (hi : i + 9 ≤ L) {ad ae : Nat → Nat} {H : Heap} {locs : List Loc} (hJ : LwI D cI cJ cZ s rm ad ae H locs) {ls : Array Slot} (hl : lv_has ls 4 [(0, .ref b), (1, .ref (ad 0)), (2, .ref (ae 0)), (3, .int (nI i))])
    (kk : ∀ (H : Heap) (locs : List Loc), LwI D cI cJ cZ s rm ad ae H locs → ∀ (ls : Array Slot), lv_has ls 4 [(0, .ref b), (1, .ref (ad 0)), (2, .ref (ae 0)), (3, .int (nI i))] → W p l e room_1 s m #[Value.ref b] below meth c H locs cells slots Q (F0 m 825 ls [])) : W p l e room_1 s m #[Value.ref b] below meth c H locs cells slots Q (F0 m 128 ls []) := by
  obtain ⟨hx, hb, hr, hml, hown, hts0, hX, hbl, hlocks, hgv⟩ := id C0
  have hts : ∀ w ∈ wLw, w.before #[Value.ref b] s = true := fun w h => hts0 w (inLw w h)
  have hA : ∀ q : Nat, s.heap.size ≤ q → (fun q : Nat => s.heap.size ≤ q) q := fun _ h => h
  have hbA : ¬ (fun q : Nat => s.heap.size ≤ q) b := Nat.not_le.mpr hbl
  have hk21 : (Cond.constantLong RL 21 4294967295).before #[Value.ref b] s = true := hts _ (by decide +kernel)
  obtain ⟨n, tp, P, Hh, Ch, Tm, Bt, Zb, val, Wk, Rk, pr, kn, fd, fr, fq, Sm, α, β, γ, Rk2, hI, hC, hM, hP, hD, hS⟩ := hJ
  obtain ⟨r, n', tp', P', Hh', Tm', Bt', Zb', val', hI', qT, qM⟩ := b_add l D cI cJ cZ ad ae hI hC hM (xs (i + 1)) ((j_shl ((xs (i + 2)).toInt64) (nI 32)) ||| (((xs (i + 3)).toInt64) &&& 4294967295)) ((j_shl ((xs (i + 4)).toInt64) (nI 32)) ||| (((xs (i + 5)).toInt64) &&& 4294967295))
  refine lv_aload_n hx hb dL_law_128 rfl (lv_at hl 1 rfl) ?_
  refine lv_aload_n hx hb dL_law_129 rfl (lv_at hl 0 rfl) ?_
  refine lv_iload_n hx hb dL_law_130 rfl (lv_at hl 3 rfl) ?_
  refine lv_iconst (v := nI 1) hx hb dL_law_131 (by decide) ?_
  refine lv_iadd hx hb dL_law_132 ?_
  refine tp_i (y := nI (i + 1)) (nI_add _ _) ?_
  refine sc_ld (j := i + 1) hx hb hX hbl hbA hS dL_law_133 (by omega) (by omega) ?_
  refine lv_aload_n hx hb dL_law_134 rfl (lv_at hl 0 rfl) ?_
  refine lv_iload_n hx hb dL_law_135 rfl (lv_at hl 3 rfl) ?_
  refine lv_iconst (v := nI 2) hx hb dL_law_136 (by decide) ?_
  refine lv_iadd hx hb dL_law_137 ?_
  refine tp_i (y := nI (i + 2)) (nI_add _ _) ?_
  refine sc_ld (j := i + 2) hx hb hX hbl hbA hS dL_law_138 (by omega) (by omega) ?_
  refine lv_i2l (v := (xs (i + 2)).toInt64) hx hb dL_law_139 rfl ?_
  refine lv_bipush (v := nI 32) hx hb dL_law_140 (by decide) ?_
  refine lv_lshl (v := j_shl ((xs (i + 2)).toInt64) (nI 32)) hx hb dL_law_142 rfl ?_
  refine lv_aload_n hx hb dL_law_143 rfl (lv_at hl 0 rfl) ?_
  refine lv_iload_n hx hb dL_law_144 rfl (lv_at hl 3 rfl) ?_
  refine lv_iconst (v := nI 3) hx hb dL_law_145 (by decide) ?_
  refine lv_iadd hx hb dL_law_146 ?_
  refine tp_i (y := nI (i + 3)) (nI_add _ _) ?_
  refine sc_ld (j := i + 3) hx hb hX hbl hbA hS dL_law_147 (by omega) (by omega) ?_
  refine lv_i2l (v := (xs (i + 3)).toInt64) hx hb dL_law_148 rfl ?_
  refine lv_ldc2 (v := 4294967295) hx hb hown hk21 dL_law_149 ?_
  refine lv_land hx hb dL_law_152 ?_
  refine lv_lor hx hb dL_law_153 ?_
  refine lv_aload_n hx hb dL_law_154 rfl (lv_at hl 0 rfl) ?_
  refine lv_iload_n hx hb dL_law_155 rfl (lv_at hl 3 rfl) ?_
  refine lv_iconst (v := nI 4) hx hb dL_law_156 (by decide) ?_
  refine lv_iadd hx hb dL_law_157 ?_
  refine tp_i (y := nI (i + 4)) (nI_add _ _) ?_
  refine sc_ld (j := i + 4) hx hb hX hbl hbA hS dL_law_158 (by omega) (by omega) ?_
  refine lv_i2l (v := (xs (i + 4)).toInt64) hx hb dL_law_159 rfl ?_
  refine lv_bipush (v := nI 32) hx hb dL_law_160 (by decide) ?_
  refine lv_lshl (v := j_shl ((xs (i + 4)).toInt64) (nI 32)) hx hb dL_law_162 rfl ?_
  refine lv_aload_n hx hb dL_law_163 rfl (lv_at hl 0 rfl) ?_
  refine lv_iload_n hx hb dL_law_164 rfl (lv_at hl 3 rfl) ?_
  refine lv_iconst (v := nI 5) hx hb dL_law_165 (by decide) ?_
  refine lv_iadd hx hb dL_law_166 ?_
  refine tp_i (y := nI (i + 5)) (nI_add _ _) ?_
  refine sc_ld (j := i + 5) hx hb hX hbl hbA hS dL_law_167 (by omega) (by omega) ?_
  refine lv_i2l (v := (xs (i + 5)).toInt64) hx hb dL_law_168 rfl ?_
  refine lv_ldc2 (v := 4294967295) hx hb hown hk21 dL_law_169 ?_
  refine lv_land hx hb dL_law_172 ?_
  refine lv_lor hx hb dL_law_173 ?_
  refine lw_kT (va_runV (As := [.int (xs (i + 1)), .long ((j_shl ((xs (i + 2)).toInt64) (nI 32)) ||| (((xs (i + 3)).toInt64) &&& 4294967295)), .long ((j_shl ((xs (i + 4)).toInt64) (nI 32)) ||| (((xs (i + 5)).toInt64) &&& 4294967295))]) (rest := []) ⟨hx, hb, hml, hown, hts⟩ (qT H.size) (cwV 3 hts gLw_T_add_23 rfl rfl rfl (by decide +kernel) ⟨Nat.le_of_ble_eq_true rfl, Nat.le_of_ble_eq_true rfl⟩) (rw_preV (hP.sub [0, 1, 2, 3, 4, 5, 6, 7, 8, 9, 10, 11, 12, 13, 14] rfl) hK (hD.sub [0, 1, 2, 3, 4, 5, 6, 7, 8, 9, 10, 11, 12, 13, 14] (by decide) rfl) (va_recv hK hP (ci := 2) (q0 := 0) rfl rfl)) rfl rfl hl.1 rfl (lv_room (Nat.le_of_ble_eq_true rfl)) dL_law_174 hcs) hP hD hS hA (fun H locs Ch Wk Rk pr kn fd fr fq hC hP hD hS => ?_)
  refine lv_aload_n hx hb dL_law_177 rfl (lv_at hl 2 rfl) ?_
  refine lv_aload_n hx hb dL_law_178 rfl (lv_at hl 0 rfl) ?_
  refine lv_iload_n hx hb dL_law_179 rfl (lv_at hl 3 rfl) ?_
  refine lv_iconst (v := nI 1) hx hb dL_law_180 (by decide) ?_
  refine lv_iadd hx hb dL_law_181 ?_
  refine tp_i (y := nI (i + 1)) (nI_add _ _) ?_
  refine sc_ld (j := i + 1) hx hb hX hbl hbA hS dL_law_182 (by omega) (by omega) ?_
  refine lv_aload_n hx hb dL_law_183 rfl (lv_at hl 0 rfl) ?_
  refine lv_iload_n hx hb dL_law_184 rfl (lv_at hl 3 rfl) ?_
  refine lv_iconst (v := nI 2) hx hb dL_law_185 (by decide) ?_
  refine lv_iadd hx hb dL_law_186 ?_
  refine tp_i (y := nI (i + 2)) (nI_add _ _) ?_
  refine sc_ld (j := i + 2) hx hb hX hbl hbA hS dL_law_187 (by omega) (by omega) ?_
  refine lv_i2l (v := (xs (i + 2)).toInt64) hx hb dL_law_188 rfl ?_
  refine lv_bipush (v := nI 32) hx hb dL_law_189 (by decide) ?_
  refine lv_lshl (v := j_shl ((xs (i + 2)).toInt64) (nI 32)) hx hb dL_law_191 rfl ?_
  refine lv_aload_n hx hb dL_law_192 rfl (lv_at hl 0 rfl) ?_
  refine lv_iload_n hx hb dL_law_193 rfl (lv_at hl 3 rfl) ?_
  refine lv_iconst (v := nI 3) hx hb dL_law_194 (by decide) ?_
  refine lv_iadd hx hb dL_law_195 ?_
  refine tp_i (y := nI (i + 3)) (nI_add _ _) ?_
  refine sc_ld (j := i + 3) hx hb hX hbl hbA hS dL_law_196 (by omega) (by omega) ?_
  refine lv_i2l (v := (xs (i + 3)).toInt64) hx hb dL_law_197 rfl ?_
  refine lv_ldc2 (v := 4294967295) hx hb hown hk21 dL_law_198 ?_
  refine lv_land hx hb dL_law_201 ?_
  refine lv_lor hx hb dL_law_202 ?_
  refine lv_aload_n hx hb dL_law_203 rfl (lv_at hl 0 rfl) ?_
  refine lv_iload_n hx hb dL_law_204 rfl (lv_at hl 3 rfl) ?_
  refine lv_iconst (v := nI 4) hx hb dL_law_205 (by decide) ?_
  refine lv_iadd hx hb dL_law_206 ?_
  refine tp_i (y := nI (i + 4)) (nI_add _ _) ?_
  refine sc_ld (j := i + 4) hx hb hX hbl hbA hS dL_law_207 (by omega) (by omega) ?_
  refine lv_i2l (v := (xs (i + 4)).toInt64) hx hb dL_law_208 rfl ?_
  refine lv_bipush (v := nI 32) hx hb dL_law_209 (by decide) ?_
  refine lv_lshl (v := j_shl ((xs (i + 4)).toInt64) (nI 32)) hx hb dL_law_211 rfl ?_
  refine lv_aload_n hx hb dL_law_212 rfl (lv_at hl 0 rfl) ?_
  refine lv_iload_n hx hb dL_law_213 rfl (lv_at hl 3 rfl) ?_
  refine lv_iconst (v := nI 5) hx hb dL_law_214 (by decide) ?_
  refine lv_iadd hx hb dL_law_215 ?_
  refine tp_i (y := nI (i + 5)) (nI_add _ _) ?_
  refine sc_ld (j := i + 5) hx hb hX hbl hbA hS dL_law_216 (by omega) (by omega) ?_
  refine lv_i2l (v := (xs (i + 5)).toInt64) hx hb dL_law_217 rfl ?_
  refine lv_ldc2 (v := 4294967295) hx hb hown hk21 dL_law_218 ?_
  refine lv_land hx hb dL_law_221 ?_
  refine lv_lor hx hb dL_law_222 ?_
  refine lw_kM (va_runV (As := [.int (xs (i + 1)), .long ((j_shl ((xs (i + 2)).toInt64) (nI 32)) ||| (((xs (i + 3)).toInt64) &&& 4294967295)), .long ((j_shl ((xs (i + 4)).toInt64) (nI 32)) ||| (((xs (i + 5)).toInt64) &&& 4294967295))]) (rest := [.int r]) ⟨hx, hb, hml, hown, hts⟩ (qM H.size) (cwV 3 hts gLw_M_add_27 rfl rfl rfl (by decide +kernel) ⟨Nat.le_of_ble_eq_true rfl, Nat.le_of_ble_eq_true rfl⟩) (rw_preV (hP.sub [15, 16, 17, 18, 19, 20, 21, 22, 23, 24, 25] rfl) hK (hD.sub [15, 16, 17, 18, 19, 20, 21, 22, 23, 24, 25] (by decide) rfl) (va_recv hK hP (ci := 3) (q0 := 15) rfl rfl)) rfl rfl hl.1 rfl (lv_room (Nat.le_of_ble_eq_true rfl)) dL_law_223 hcs) hP hD hS hA (fun H locs Sm α β γ Rk2 hM hP hD hS => ?_)
  exact lv_icmp_eq (tgt := 825) hx hb dL_law_226 (by decide) (fun _ => kk _ _ ⟨n', tp', P', Hh', Ch, Tm', Bt', Zb', val', Wk, Rk, pr, kn, fd, fr, fq, Sm, α, β, γ, Rk2, hI', hC, hM, hP, hD, hS⟩ ls hl) (fun c9 => absurd rfl c9)

set_option maxRecDepth 100000 in
set_option maxHeartbeats 4000000 in
theorem lc_spoil {p : Program} {l : Launch} {e : Env} {s : State} {m : MethodId} {below : List Frame} {meth : Method} {c : Code} {b L : Nat} {xs : Nat → Int32} (hL : L ≤ 4610) (C0 : lw_At p s m meth c b L xs) {D : va_G} {cI cJ cZ : ClassId} (hK : va_K D vwCl (gT cI cJ cZ) s) {cells slots : Nat} (hcs : cells ≤ 600000 ∧ slots ≤ 7302250) {Q : State → Prop} {rm i : Nat} (hi : i + 9 ≤ L) {ad ae : Nat → Nat} {H : Heap} {locs : List Loc} (hJ : LwI D cI cJ cZ s rm ad ae H locs) {ls : Array Slot} (hl : lv_has ls 4 [(0, .ref b), (1, .ref (ad 0)), (2, .ref (ae 0)), (3, .int (nI i))])
    (kk : ∀ (H : Heap) (locs : List Loc), LwI D cI cJ cZ s rm ad ae H locs → ∀ (ls : Array Slot), lv_has ls 4 [(0, .ref b), (1, .ref (ad 0)), (2, .ref (ae 0)), (3, .int (nI i))] → W p l e room_1 s m #[Value.ref b] below meth c H locs cells slots Q (F0 m 825 ls [])) : W p l e room_1 s m #[Value.ref b] below meth c H locs cells slots Q (F0 m 231 ls []) := by
  obtain ⟨hx, hb, hr, hml, hown, hts0, hX, hbl, hlocks, hgv⟩ := id C0
  have hts : ∀ w ∈ wLw, w.before #[Value.ref b] s = true := fun w h => hts0 w (inLw w h)
  have hA : ∀ q : Nat, s.heap.size ≤ q → (fun q : Nat => s.heap.size ≤ q) q := fun _ h => h
  have hbA : ¬ (fun q : Nat => s.heap.size ≤ q) b := Nat.not_le.mpr hbl
  obtain ⟨n, tp, P, Hh, Ch, Tm, Bt, Zb, val, Wk, Rk, pr, kn, fd, fr, fq, Sm, α, β, γ, Rk2, hI, hC, hM, hP, hD, hS⟩ := hJ
  obtain ⟨r, n', tp', P', Hh', Tm', Bt', Zb', val', hI', qT, qM⟩ := b_spoil l D cI cJ cZ ad ae hI hC hM (xs (i + 1))
  refine lv_aload_n hx hb dL_law_231 rfl (lv_at hl 1 rfl) ?_
  refine lv_aload_n hx hb dL_law_232 rfl (lv_at hl 0 rfl) ?_
  refine lv_iload_n hx hb dL_law_233 rfl (lv_at hl 3 rfl) ?_
  refine lv_iconst (v := nI 1) hx hb dL_law_234 (by decide) ?_
  refine lv_iadd hx hb dL_law_235 ?_
  refine tp_i (y := nI (i + 1)) (nI_add _ _) ?_
  refine sc_ld (j := i + 1) hx hb hX hbl hbA hS dL_law_236 (by omega) (by omega) ?_
  refine lw_kT (va_runV (As := [.int (xs (i + 1))]) (rest := []) ⟨hx, hb, hml, hown, hts⟩ (qT H.size) (cwV 1 hts gLw_T_spoil_28 rfl rfl rfl (by decide +kernel) ⟨Nat.le_of_ble_eq_true rfl, Nat.le_of_ble_eq_true rfl⟩) (rw_preV (hP.sub [0, 1, 2, 3, 4, 5, 6, 7, 8, 9, 10, 11, 12, 13, 14] rfl) hK (hD.sub [0, 1, 2, 3, 4, 5, 6, 7, 8, 9, 10, 11, 12, 13, 14] (by decide) rfl) (va_recv hK hP (ci := 2) (q0 := 0) rfl rfl)) rfl rfl hl.1 rfl (lv_room (Nat.le_of_ble_eq_true rfl)) dL_law_237 hcs) hP hD hS hA (fun H locs Ch Wk Rk pr kn fd fr fq hC hP hD hS => ?_)
  refine lv_aload_n hx hb dL_law_240 rfl (lv_at hl 2 rfl) ?_
  refine lv_aload_n hx hb dL_law_241 rfl (lv_at hl 0 rfl) ?_
  refine lv_iload_n hx hb dL_law_242 rfl (lv_at hl 3 rfl) ?_
  refine lv_iconst (v := nI 1) hx hb dL_law_243 (by decide) ?_
  refine lv_iadd hx hb dL_law_244 ?_
  refine tp_i (y := nI (i + 1)) (nI_add _ _) ?_
  refine sc_ld (j := i + 1) hx hb hX hbl hbA hS dL_law_245 (by omega) (by omega) ?_
  refine lw_kM (va_runV (As := [.int (xs (i + 1))]) (rest := [.int r]) ⟨hx, hb, hml, hown, hts⟩ (qM H.size) (cwV 1 hts gLw_M_spoil_32 rfl rfl rfl (by decide +kernel) ⟨Nat.le_of_ble_eq_true rfl, Nat.le_of_ble_eq_true rfl⟩) (rw_preV (hP.sub [15, 16, 17, 18, 19, 20, 21, 22, 23, 24, 25] rfl) hK (hD.sub [15, 16, 17, 18, 19, 20, 21, 22, 23, 24, 25] (by decide) rfl) (va_recv hK hP (ci := 3) (q0 := 15) rfl rfl)) rfl rfl hl.1 rfl (lv_room (Nat.le_of_ble_eq_true rfl)) dL_law_246 hcs) hP hD hS hA (fun H locs Sm α β γ Rk2 hM hP hD hS => ?_)
  exact lv_icmp_eq (tgt := 825) hx hb dL_law_249 (by decide) (fun _ => kk _ _ ⟨n', tp', P', Hh', Ch, Tm', Bt', Zb', val', Wk, Rk, pr, kn, fd, fr, fq, Sm, α, β, γ, Rk2, hI', hC, hM, hP, hD, hS⟩ ls hl) (fun c9 => absurd rfl c9)

set_option maxRecDepth 100000 in
set_option maxHeartbeats 4000000 in
theorem lc_must {p : Program} {l : Launch} {e : Env} {s : State} {m : MethodId} {below : List Frame} {meth : Method} {c : Code} {b L : Nat} {xs : Nat → Int32} (hL : L ≤ 4610) (C0 : lw_At p s m meth c b L xs) {D : va_G} {cI cJ cZ : ClassId} (hK : va_K D vwCl (gT cI cJ cZ) s) {cells slots : Nat} (hcs : cells ≤ 600000 ∧ slots ≤ 7302250) {Q : State → Prop} {rm i : Nat} (hi : i + 9 ≤ L) {ad ae : Nat → Nat} {H : Heap} {locs : List Loc} (hJ : LwI D cI cJ cZ s rm ad ae H locs) {ls : Array Slot} (hl : lv_has ls 4 [(0, .ref b), (1, .ref (ad 0)), (2, .ref (ae 0)), (3, .int (nI i))])
    (kk : ∀ (H : Heap) (locs : List Loc), LwI D cI cJ cZ s rm ad ae H locs → ∀ (ls : Array Slot), lv_has ls 4 [(0, .ref b), (1, .ref (ad 0)), (2, .ref (ae 0)), (3, .int (nI i))] → W p l e room_1 s m #[Value.ref b] below meth c H locs cells slots Q (F0 m 825 ls [])) : W p l e room_1 s m #[Value.ref b] below meth c H locs cells slots Q (F0 m 254 ls []) := by
  obtain ⟨hx, hb, hr, hml, hown, hts0, hX, hbl, hlocks, hgv⟩ := id C0
  have hts : ∀ w ∈ wLw, w.before #[Value.ref b] s = true := fun w h => hts0 w (inLw w h)
  have hA : ∀ q : Nat, s.heap.size ≤ q → (fun q : Nat => s.heap.size ≤ q) q := fun _ h => h
  have hbA : ¬ (fun q : Nat => s.heap.size ≤ q) b := Nat.not_le.mpr hbl
  obtain ⟨n, tp, P, Hh, Ch, Tm, Bt, Zb, val, Wk, Rk, pr, kn, fd, fr, fq, Sm, α, β, γ, Rk2, hI, hC, hM, hP, hD, hS⟩ := hJ
  obtain ⟨r, n', tp', P', Hh', Tm', Bt', Zb', val', hI', qT, qM⟩ := b_must l D cI cJ cZ ad ae hI hC hM (xs (i + 1))
  refine lv_aload_n hx hb dL_law_254 rfl (lv_at hl 1 rfl) ?_
  refine lv_aload_n hx hb dL_law_255 rfl (lv_at hl 0 rfl) ?_
  refine lv_iload_n hx hb dL_law_256 rfl (lv_at hl 3 rfl) ?_
  refine lv_iconst (v := nI 1) hx hb dL_law_257 (by decide) ?_
  refine lv_iadd hx hb dL_law_258 ?_
  refine tp_i (y := nI (i + 1)) (nI_add _ _) ?_
  refine sc_ld (j := i + 1) hx hb hX hbl hbA hS dL_law_259 (by omega) (by omega) ?_
  refine lw_kT (va_runV (As := [.int (xs (i + 1))]) (rest := []) ⟨hx, hb, hml, hown, hts⟩ (qT H.size) (cwV 1 hts gLw_T_must_33 rfl rfl rfl (by decide +kernel) ⟨Nat.le_of_ble_eq_true rfl, Nat.le_of_ble_eq_true rfl⟩) (rw_preV (hP.sub [0, 1, 2, 3, 4, 5, 6, 7, 8, 9, 10, 11, 12, 13, 14] rfl) hK (hD.sub [0, 1, 2, 3, 4, 5, 6, 7, 8, 9, 10, 11, 12, 13, 14] (by decide) rfl) (va_recv hK hP (ci := 2) (q0 := 0) rfl rfl)) rfl rfl hl.1 rfl (lv_room (Nat.le_of_ble_eq_true rfl)) dL_law_260 hcs) hP hD hS hA (fun H locs Ch Wk Rk pr kn fd fr fq hC hP hD hS => ?_)
  refine lv_aload_n hx hb dL_law_263 rfl (lv_at hl 2 rfl) ?_
  refine lv_aload_n hx hb dL_law_264 rfl (lv_at hl 0 rfl) ?_
  refine lv_iload_n hx hb dL_law_265 rfl (lv_at hl 3 rfl) ?_
  refine lv_iconst (v := nI 1) hx hb dL_law_266 (by decide) ?_
  refine lv_iadd hx hb dL_law_267 ?_
  refine tp_i (y := nI (i + 1)) (nI_add _ _) ?_
  refine sc_ld (j := i + 1) hx hb hX hbl hbA hS dL_law_268 (by omega) (by omega) ?_
  refine lw_kM (va_runV (As := [.int (xs (i + 1))]) (rest := [.long r]) ⟨hx, hb, hml, hown, hts⟩ (qM H.size) (cwV 1 hts gLw_M_must_37 rfl rfl rfl (by decide +kernel) ⟨Nat.le_of_ble_eq_true rfl, Nat.le_of_ble_eq_true rfl⟩) (rw_preV (hP.sub [15, 16, 17, 18, 19, 20, 21, 22, 23, 24, 25] rfl) hK (hD.sub [15, 16, 17, 18, 19, 20, 21, 22, 23, 24, 25] (by decide) rfl) (va_recv hK hP (ci := 3) (q0 := 15) rfl rfl)) rfl rfl hl.1 rfl (lv_room (Nat.le_of_ble_eq_true rfl)) dL_law_269 hcs) hP hD hS hA (fun H locs Sm α β γ Rk2 hM hP hD hS => ?_)
  exact lc_eq (tgt := 825) hx hb dL_law_272 dL_law_273 (by decide) (fun _ => kk _ _ ⟨n', tp', P', Hh', Ch, Tm', Bt', Zb', val', Wk, Rk, pr, kn, fd, fr, fq, Sm, α, β, γ, Rk2, hI', hC, hM, hP, hD, hS⟩ ls hl) (fun c9 => absurd rfl c9)

set_option maxRecDepth 100000 in
set_option maxHeartbeats 4000000 in
theorem lc_median {p : Program} {l : Launch} {e : Env} {s : State} {m : MethodId} {below : List Frame} {meth : Method} {c : Code} {b L : Nat} {xs : Nat → Int32} (hL : L ≤ 4610) (C0 : lw_At p s m meth c b L xs) {D : va_G} {cI cJ cZ : ClassId} (hK : va_K D vwCl (gT cI cJ cZ) s) {cells slots : Nat} (hcs : cells ≤ 600000 ∧ slots ≤ 7302250) {Q : State → Prop} {rm i : Nat} (hi : i + 9 ≤ L) {ad ae : Nat → Nat} {H : Heap} {locs : List Loc} (hJ : LwI D cI cJ cZ s rm ad ae H locs) {ls : Array Slot} (hl : lv_has ls 4 [(0, .ref b), (1, .ref (ad 0)), (2, .ref (ae 0)), (3, .int (nI i))])
    (kk : ∀ (H : Heap) (locs : List Loc), LwI D cI cJ cZ s rm ad ae H locs → ∀ (ls : Array Slot), lv_has ls 4 [(0, .ref b), (1, .ref (ad 0)), (2, .ref (ae 0)), (3, .int (nI i))] → W p l e room_1 s m #[Value.ref b] below meth c H locs cells slots Q (F0 m 825 ls [])) : W p l e room_1 s m #[Value.ref b] below meth c H locs cells slots Q (F0 m 278 ls []) := by
  obtain ⟨hx, hb, hr, hml, hown, hts0, hX, hbl, hlocks, hgv⟩ := id C0
  have hts : ∀ w ∈ wLw, w.before #[Value.ref b] s = true := fun w h => hts0 w (inLw w h)
  have hA : ∀ q : Nat, s.heap.size ≤ q → (fun q : Nat => s.heap.size ≤ q) q := fun _ h => h
  have hbA : ¬ (fun q : Nat => s.heap.size ≤ q) b := Nat.not_le.mpr hbl
  obtain ⟨n, tp, P, Hh, Ch, Tm, Bt, Zb, val, Wk, Rk, pr, kn, fd, fr, fq, Sm, α, β, γ, Rk2, hI, hC, hM, hP, hD, hS⟩ := hJ
  obtain ⟨r, n', tp', P', Hh', Tm', Bt', Zb', val', hI', qT, qM⟩ := b_median l D cI cJ cZ ad ae hI hC hM (xs (i + 1))
  refine lv_aload_n hx hb dL_law_278 rfl (lv_at hl 1 rfl) ?_
  refine lv_aload_n hx hb dL_law_279 rfl (lv_at hl 0 rfl) ?_
  refine lv_iload_n hx hb dL_law_280 rfl (lv_at hl 3 rfl) ?_
  refine lv_iconst (v := nI 1) hx hb dL_law_281 (by decide) ?_
  refine lv_iadd hx hb dL_law_282 ?_
  refine tp_i (y := nI (i + 1)) (nI_add _ _) ?_
  refine sc_ld (j := i + 1) hx hb hX hbl hbA hS dL_law_283 (by omega) (by omega) ?_
  refine lw_kT (va_runV (As := [.int (xs (i + 1))]) (rest := []) ⟨hx, hb, hml, hown, hts⟩ (qT H.size) (cwV 1 hts gLw_T_median_38 rfl rfl rfl (by decide +kernel) ⟨Nat.le_of_ble_eq_true rfl, Nat.le_of_ble_eq_true rfl⟩) (rw_preV (hP.sub [0, 1, 2, 3, 4, 5, 6, 7, 8, 9, 10, 11, 12, 13, 14] rfl) hK (hD.sub [0, 1, 2, 3, 4, 5, 6, 7, 8, 9, 10, 11, 12, 13, 14] (by decide) rfl) (va_recv hK hP (ci := 2) (q0 := 0) rfl rfl)) rfl rfl hl.1 rfl (lv_room (Nat.le_of_ble_eq_true rfl)) dL_law_284 hcs) hP hD hS hA (fun H locs Ch Wk Rk pr kn fd fr fq hC hP hD hS => ?_)
  refine lv_aload_n hx hb dL_law_287 rfl (lv_at hl 2 rfl) ?_
  refine lv_aload_n hx hb dL_law_288 rfl (lv_at hl 0 rfl) ?_
  refine lv_iload_n hx hb dL_law_289 rfl (lv_at hl 3 rfl) ?_
  refine lv_iconst (v := nI 1) hx hb dL_law_290 (by decide) ?_
  refine lv_iadd hx hb dL_law_291 ?_
  refine tp_i (y := nI (i + 1)) (nI_add _ _) ?_
  refine sc_ld (j := i + 1) hx hb hX hbl hbA hS dL_law_292 (by omega) (by omega) ?_
  refine lw_kM (va_runV (As := [.int (xs (i + 1))]) (rest := [.long r]) ⟨hx, hb, hml, hown, hts⟩ (qM H.size) (cwV 1 hts gLw_M_median_41 rfl rfl rfl (by decide +kernel) ⟨Nat.le_of_ble_eq_true rfl, Nat.le_of_ble_eq_true rfl⟩) (rw_preV (hP.sub [15, 16, 17, 18, 19, 20, 21, 22, 23, 24, 25] rfl) hK (hD.sub [15, 16, 17, 18, 19, 20, 21, 22, 23, 24, 25] (by decide) rfl) (va_recv hK hP (ci := 3) (q0 := 15) rfl rfl)) rfl rfl hl.1 rfl (lv_room (Nat.le_of_ble_eq_true rfl)) dL_law_293 hcs) hP hD hS hA (fun H locs Sm α β γ Rk2 hM hP hD hS => ?_)
  exact lc_eq (tgt := 825) hx hb dL_law_296 dL_law_297 (by decide) (fun _ => kk _ _ ⟨n', tp', P', Hh', Ch, Tm', Bt', Zb', val', Wk, Rk, pr, kn, fd, fr, fq, Sm, α, β, γ, Rk2, hI', hC, hM, hP, hD, hS⟩ ls hl) (fun c9 => absurd rfl c9)

set_option maxRecDepth 100000 in
set_option maxHeartbeats 4000000 in
theorem lc_look {p : Program} {l : Launch} {e : Env} {s : State} {m : MethodId} {below : List Frame} {meth : Method} {c : Code} {b L : Nat} {xs : Nat → Int32} (hL : L ≤ 4610) (C0 : lw_At p s m meth c b L xs) {D : va_G} {cI cJ cZ : ClassId} (hK : va_K D vwCl (gT cI cJ cZ) s) {cells slots : Nat} (hcs : cells ≤ 600000 ∧ slots ≤ 7302250) {Q : State → Prop} {rm i : Nat} (hi : i + 9 ≤ L) {ad ae : Nat → Nat} {H : Heap} {locs : List Loc} (hJ : LwI D cI cJ cZ s rm ad ae H locs) {ls : Array Slot} (hl : lv_has ls 4 [(0, .ref b), (1, .ref (ad 0)), (2, .ref (ae 0)), (3, .int (nI i))])
    (kk : ∀ (H : Heap) (locs : List Loc), LwI D cI cJ cZ s rm ad ae H locs → ∀ (ls : Array Slot), lv_has ls 4 [(0, .ref b), (1, .ref (ad 0)), (2, .ref (ae 0)), (3, .int (nI i))] → W p l e room_1 s m #[Value.ref b] below meth c H locs cells slots Q (F0 m 825 ls [])) : W p l e room_1 s m #[Value.ref b] below meth c H locs cells slots Q (F0 m 302 ls []) := by
  obtain ⟨hx, hb, hr, hml, hown, hts0, hX, hbl, hlocks, hgv⟩ := id C0
  have hts : ∀ w ∈ wLw, w.before #[Value.ref b] s = true := fun w h => hts0 w (inLw w h)
  have hA : ∀ q : Nat, s.heap.size ≤ q → (fun q : Nat => s.heap.size ≤ q) q := fun _ h => h
  have hbA : ¬ (fun q : Nat => s.heap.size ≤ q) b := Nat.not_le.mpr hbl
  obtain ⟨n, tp, P, Hh, Ch, Tm, Bt, Zb, val, Wk, Rk, pr, kn, fd, fr, fq, Sm, α, β, γ, Rk2, hI, hC, hM, hP, hD, hS⟩ := hJ
  obtain ⟨r, n', tp', P', Hh', Tm', Bt', Zb', val', hI', qT, qM⟩ := b_look l D cI cJ cZ ad ae hI hC hM (xs (i + 1)) (xs (i + 2))
  refine lv_aload_n hx hb dL_law_302 rfl (lv_at hl 1 rfl) ?_
  refine lv_aload_n hx hb dL_law_303 rfl (lv_at hl 0 rfl) ?_
  refine lv_iload_n hx hb dL_law_304 rfl (lv_at hl 3 rfl) ?_
  refine lv_iconst (v := nI 1) hx hb dL_law_305 (by decide) ?_
  refine lv_iadd hx hb dL_law_306 ?_
  refine tp_i (y := nI (i + 1)) (nI_add _ _) ?_
  refine sc_ld (j := i + 1) hx hb hX hbl hbA hS dL_law_307 (by omega) (by omega) ?_
  refine lv_aload_n hx hb dL_law_308 rfl (lv_at hl 0 rfl) ?_
  refine lv_iload_n hx hb dL_law_309 rfl (lv_at hl 3 rfl) ?_
  refine lv_iconst (v := nI 2) hx hb dL_law_310 (by decide) ?_
  refine lv_iadd hx hb dL_law_311 ?_
  refine tp_i (y := nI (i + 2)) (nI_add _ _) ?_
  refine sc_ld (j := i + 2) hx hb hX hbl hbA hS dL_law_312 (by omega) (by omega) ?_
  refine lw_kT (va_runV (As := [.int (xs (i + 1)), .int (xs (i + 2))]) (rest := []) ⟨hx, hb, hml, hown, hts⟩ (qT H.size) (cwV 2 hts gLw_T_look_42 rfl rfl rfl (by decide +kernel) ⟨Nat.le_of_ble_eq_true rfl, Nat.le_of_ble_eq_true rfl⟩) (rw_preV (hP.sub [0, 1, 2, 3, 4, 5, 6, 7, 8, 9, 10, 11, 12, 13, 14] rfl) hK (hD.sub [0, 1, 2, 3, 4, 5, 6, 7, 8, 9, 10, 11, 12, 13, 14] (by decide) rfl) (va_recv hK hP (ci := 2) (q0 := 0) rfl rfl)) rfl rfl hl.1 rfl (lv_room (Nat.le_of_ble_eq_true rfl)) dL_law_313 hcs) hP hD hS hA (fun H locs Ch Wk Rk pr kn fd fr fq hC hP hD hS => ?_)
  refine lv_aload_n hx hb dL_law_316 rfl (lv_at hl 2 rfl) ?_
  refine lv_aload_n hx hb dL_law_317 rfl (lv_at hl 0 rfl) ?_
  refine lv_iload_n hx hb dL_law_318 rfl (lv_at hl 3 rfl) ?_
  refine lv_iconst (v := nI 1) hx hb dL_law_319 (by decide) ?_
  refine lv_iadd hx hb dL_law_320 ?_
  refine tp_i (y := nI (i + 1)) (nI_add _ _) ?_
  refine sc_ld (j := i + 1) hx hb hX hbl hbA hS dL_law_321 (by omega) (by omega) ?_
  refine lv_aload_n hx hb dL_law_322 rfl (lv_at hl 0 rfl) ?_
  refine lv_iload_n hx hb dL_law_323 rfl (lv_at hl 3 rfl) ?_
  refine lv_iconst (v := nI 2) hx hb dL_law_324 (by decide) ?_
  refine lv_iadd hx hb dL_law_325 ?_
  refine tp_i (y := nI (i + 2)) (nI_add _ _) ?_
  refine sc_ld (j := i + 2) hx hb hX hbl hbA hS dL_law_326 (by omega) (by omega) ?_
  refine lw_kM (va_runV (As := [.int (xs (i + 1)), .int (xs (i + 2))]) (rest := [.long r]) ⟨hx, hb, hml, hown, hts⟩ (qM H.size) (cwV 2 hts gLw_M_look_46 rfl rfl rfl (by decide +kernel) ⟨Nat.le_of_ble_eq_true rfl, Nat.le_of_ble_eq_true rfl⟩) (rw_preV (hP.sub [15, 16, 17, 18, 19, 20, 21, 22, 23, 24, 25] rfl) hK (hD.sub [15, 16, 17, 18, 19, 20, 21, 22, 23, 24, 25] (by decide) rfl) (va_recv hK hP (ci := 3) (q0 := 15) rfl rfl)) rfl rfl hl.1 rfl (lv_room (Nat.le_of_ble_eq_true rfl)) dL_law_327 hcs) hP hD hS hA (fun H locs Sm α β γ Rk2 hM hP hD hS => ?_)
  exact lc_eq (tgt := 825) hx hb dL_law_330 dL_law_331 (by decide) (fun _ => kk _ _ ⟨n', tp', P', Hh', Ch, Tm', Bt', Zb', val', Wk, Rk, pr, kn, fd, fr, fq, Sm, α, β, γ, Rk2, hI', hC, hM, hP, hD, hS⟩ ls hl) (fun c9 => absurd rfl c9)

set_option maxRecDepth 100000 in
set_option maxHeartbeats 4000000 in
theorem lc_work {p : Program} {l : Launch} {e : Env} {s : State} {m : MethodId} {below : List Frame} {meth : Method} {c : Code} {b L : Nat} {xs : Nat → Int32} (hL : L ≤ 4610) (C0 : lw_At p s m meth c b L xs) {D : va_G} {cI cJ cZ : ClassId} (hK : va_K D vwCl (gT cI cJ cZ) s) {cells slots : Nat} (hcs : cells ≤ 600000 ∧ slots ≤ 7302250) {Q : State → Prop} {rm i : Nat} (hi : i + 9 ≤ L) {ad ae : Nat → Nat} {H : Heap} {locs : List Loc} (hJ : LwI D cI cJ cZ s rm ad ae H locs) {ls : Array Slot} (hl : lv_has ls 4 [(0, .ref b), (1, .ref (ad 0)), (2, .ref (ae 0)), (3, .int (nI i))])
    (kk : ∀ (H : Heap) (locs : List Loc), LwI D cI cJ cZ s rm ad ae H locs → ∀ (ls : Array Slot), lv_has ls 4 [(0, .ref b), (1, .ref (ad 0)), (2, .ref (ae 0)), (3, .int (nI i))] → W p l e room_1 s m #[Value.ref b] below meth c H locs cells slots Q (F0 m 825 ls [])) : W p l e room_1 s m #[Value.ref b] below meth c H locs cells slots Q (F0 m 336 ls []) := by
  obtain ⟨hx, hb, hr, hml, hown, hts0, hX, hbl, hlocks, hgv⟩ := id C0
  have hts : ∀ w ∈ wLw, w.before #[Value.ref b] s = true := fun w h => hts0 w (inLw w h)
  have hA : ∀ q : Nat, s.heap.size ≤ q → (fun q : Nat => s.heap.size ≤ q) q := fun _ h => h
  have hbA : ¬ (fun q : Nat => s.heap.size ≤ q) b := Nat.not_le.mpr hbl
  obtain ⟨n, tp, P, Hh, Ch, Tm, Bt, Zb, val, Wk, Rk, pr, kn, fd, fr, fq, Sm, α, β, γ, Rk2, hI, hC, hM, hP, hD, hS⟩ := hJ
  obtain ⟨r, n', tp', P', Hh', Tm', Bt', Zb', val', hI', qT, qM⟩ := b_work l D cI cJ cZ ad ae hI hC hM (xs (i + 1)) (xs (i + 2))
  refine lv_aload_n hx hb dL_law_336 rfl (lv_at hl 1 rfl) ?_
  refine lv_aload_n hx hb dL_law_337 rfl (lv_at hl 0 rfl) ?_
  refine lv_iload_n hx hb dL_law_338 rfl (lv_at hl 3 rfl) ?_
  refine lv_iconst (v := nI 1) hx hb dL_law_339 (by decide) ?_
  refine lv_iadd hx hb dL_law_340 ?_
  refine tp_i (y := nI (i + 1)) (nI_add _ _) ?_
  refine sc_ld (j := i + 1) hx hb hX hbl hbA hS dL_law_341 (by omega) (by omega) ?_
  refine lv_aload_n hx hb dL_law_342 rfl (lv_at hl 0 rfl) ?_
  refine lv_iload_n hx hb dL_law_343 rfl (lv_at hl 3 rfl) ?_
  refine lv_iconst (v := nI 2) hx hb dL_law_344 (by decide) ?_
  refine lv_iadd hx hb dL_law_345 ?_
  refine tp_i (y := nI (i + 2)) (nI_add _ _) ?_
  refine sc_ld (j := i + 2) hx hb hX hbl hbA hS dL_law_346 (by omega) (by omega) ?_
  refine lw_kT (va_runV (As := [.int (xs (i + 1)), .int (xs (i + 2))]) (rest := []) ⟨hx, hb, hml, hown, hts⟩ (qT H.size) (cwV 2 hts gLw_T_work_47 rfl rfl rfl (by decide +kernel) ⟨Nat.le_of_ble_eq_true rfl, Nat.le_of_ble_eq_true rfl⟩) (rw_preV (hP.sub [0, 1, 2, 3, 4, 5, 6, 7, 8, 9, 10, 11, 12, 13, 14] rfl) hK (hD.sub [0, 1, 2, 3, 4, 5, 6, 7, 8, 9, 10, 11, 12, 13, 14] (by decide) rfl) (va_recv hK hP (ci := 2) (q0 := 0) rfl rfl)) rfl rfl hl.1 rfl (lv_room (Nat.le_of_ble_eq_true rfl)) dL_law_347 hcs) hP hD hS hA (fun H locs Ch Wk Rk pr kn fd fr fq hC hP hD hS => ?_)
  refine lv_aload_n hx hb dL_law_350 rfl (lv_at hl 2 rfl) ?_
  refine lv_aload_n hx hb dL_law_351 rfl (lv_at hl 0 rfl) ?_
  refine lv_iload_n hx hb dL_law_352 rfl (lv_at hl 3 rfl) ?_
  refine lv_iconst (v := nI 1) hx hb dL_law_353 (by decide) ?_
  refine lv_iadd hx hb dL_law_354 ?_
  refine tp_i (y := nI (i + 1)) (nI_add _ _) ?_
  refine sc_ld (j := i + 1) hx hb hX hbl hbA hS dL_law_355 (by omega) (by omega) ?_
  refine lv_aload_n hx hb dL_law_356 rfl (lv_at hl 0 rfl) ?_
  refine lv_iload_n hx hb dL_law_357 rfl (lv_at hl 3 rfl) ?_
  refine lv_iconst (v := nI 2) hx hb dL_law_358 (by decide) ?_
  refine lv_iadd hx hb dL_law_359 ?_
  refine tp_i (y := nI (i + 2)) (nI_add _ _) ?_
  refine sc_ld (j := i + 2) hx hb hX hbl hbA hS dL_law_360 (by omega) (by omega) ?_
  refine lw_kM (va_runV (As := [.int (xs (i + 1)), .int (xs (i + 2))]) (rest := [.long r]) ⟨hx, hb, hml, hown, hts⟩ (qM H.size) (cwV 2 hts gLw_M_work_50 rfl rfl rfl (by decide +kernel) ⟨Nat.le_of_ble_eq_true rfl, Nat.le_of_ble_eq_true rfl⟩) (rw_preV (hP.sub [15, 16, 17, 18, 19, 20, 21, 22, 23, 24, 25] rfl) hK (hD.sub [15, 16, 17, 18, 19, 20, 21, 22, 23, 24, 25] (by decide) rfl) (va_recv hK hP (ci := 3) (q0 := 15) rfl rfl)) rfl rfl hl.1 rfl (lv_room (Nat.le_of_ble_eq_true rfl)) dL_law_361 hcs) hP hD hS hA (fun H locs Sm α β γ Rk2 hM hP hD hS => ?_)
  exact lc_eq (tgt := 825) hx hb dL_law_364 dL_law_365 (by decide) (fun _ => kk _ _ ⟨n', tp', P', Hh', Ch, Tm', Bt', Zb', val', Wk, Rk, pr, kn, fd, fr, fq, Sm, α, β, γ, Rk2, hI', hC, hM, hP, hD, hS⟩ ls hl) (fun c9 => absurd rfl c9)

set_option maxRecDepth 100000 in
set_option maxHeartbeats 4000000 in
theorem lc_compare {p : Program} {l : Launch} {e : Env} {s : State} {m : MethodId} {below : List Frame} {meth : Method} {c : Code} {b L : Nat} {xs : Nat → Int32} (hL : L ≤ 4610) (C0 : lw_At p s m meth c b L xs) {D : va_G} {cI cJ cZ : ClassId} (hK : va_K D vwCl (gT cI cJ cZ) s) {cells slots : Nat} (hcs : cells ≤ 600000 ∧ slots ≤ 7302250) {Q : State → Prop} {rm i : Nat} (hi : i + 9 ≤ L) {ad ae : Nat → Nat} {H : Heap} {locs : List Loc} (hJ : LwI D cI cJ cZ s rm ad ae H locs) {ls : Array Slot} (hl : lv_has ls 4 [(0, .ref b), (1, .ref (ad 0)), (2, .ref (ae 0)), (3, .int (nI i))])
    (kk : ∀ (H : Heap) (locs : List Loc), LwI D cI cJ cZ s rm ad ae H locs → ∀ (ls : Array Slot), lv_has ls 4 [(0, .ref b), (1, .ref (ad 0)), (2, .ref (ae 0)), (3, .int (nI i))] → W p l e room_1 s m #[Value.ref b] below meth c H locs cells slots Q (F0 m 825 ls [])) : W p l e room_1 s m #[Value.ref b] below meth c H locs cells slots Q (F0 m 370 ls []) := by
  obtain ⟨hx, hb, hr, hml, hown, hts0, hX, hbl, hlocks, hgv⟩ := id C0
  have hts : ∀ w ∈ wLw, w.before #[Value.ref b] s = true := fun w h => hts0 w (inLw w h)
  have hA : ∀ q : Nat, s.heap.size ≤ q → (fun q : Nat => s.heap.size ≤ q) q := fun _ h => h
  have hbA : ¬ (fun q : Nat => s.heap.size ≤ q) b := Nat.not_le.mpr hbl
  obtain ⟨n, tp, P, Hh, Ch, Tm, Bt, Zb, val, Wk, Rk, pr, kn, fd, fr, fq, Sm, α, β, γ, Rk2, hI, hC, hM, hP, hD, hS⟩ := hJ
  obtain ⟨r, n', tp', P', Hh', Tm', Bt', Zb', val', hI', qT, qM⟩ := b_compare l D cI cJ cZ ad ae hI hC hM (xs (i + 1)) (xs (i + 2))
  refine lv_aload_n hx hb dL_law_370 rfl (lv_at hl 1 rfl) ?_
  refine lv_aload_n hx hb dL_law_371 rfl (lv_at hl 0 rfl) ?_
  refine lv_iload_n hx hb dL_law_372 rfl (lv_at hl 3 rfl) ?_
  refine lv_iconst (v := nI 1) hx hb dL_law_373 (by decide) ?_
  refine lv_iadd hx hb dL_law_374 ?_
  refine tp_i (y := nI (i + 1)) (nI_add _ _) ?_
  refine sc_ld (j := i + 1) hx hb hX hbl hbA hS dL_law_375 (by omega) (by omega) ?_
  refine lv_aload_n hx hb dL_law_376 rfl (lv_at hl 0 rfl) ?_
  refine lv_iload_n hx hb dL_law_377 rfl (lv_at hl 3 rfl) ?_
  refine lv_iconst (v := nI 2) hx hb dL_law_378 (by decide) ?_
  refine lv_iadd hx hb dL_law_379 ?_
  refine tp_i (y := nI (i + 2)) (nI_add _ _) ?_
  refine sc_ld (j := i + 2) hx hb hX hbl hbA hS dL_law_380 (by omega) (by omega) ?_
  refine lw_kT (va_runV (As := [.int (xs (i + 1)), .int (xs (i + 2))]) (rest := []) ⟨hx, hb, hml, hown, hts⟩ (qT H.size) (cwV 2 hts gLw_T_compare_51 rfl rfl rfl (by decide +kernel) ⟨Nat.le_of_ble_eq_true rfl, Nat.le_of_ble_eq_true rfl⟩) (rw_preV (hP.sub [0, 1, 2, 3, 4, 5, 6, 7, 8, 9, 10, 11, 12, 13, 14] rfl) hK (hD.sub [0, 1, 2, 3, 4, 5, 6, 7, 8, 9, 10, 11, 12, 13, 14] (by decide) rfl) (va_recv hK hP (ci := 2) (q0 := 0) rfl rfl)) rfl rfl hl.1 rfl (lv_room (Nat.le_of_ble_eq_true rfl)) dL_law_381 hcs) hP hD hS hA (fun H locs Ch Wk Rk pr kn fd fr fq hC hP hD hS => ?_)
  refine lv_aload_n hx hb dL_law_384 rfl (lv_at hl 2 rfl) ?_
  refine lv_aload_n hx hb dL_law_385 rfl (lv_at hl 0 rfl) ?_
  refine lv_iload_n hx hb dL_law_386 rfl (lv_at hl 3 rfl) ?_
  refine lv_iconst (v := nI 1) hx hb dL_law_387 (by decide) ?_
  refine lv_iadd hx hb dL_law_388 ?_
  refine tp_i (y := nI (i + 1)) (nI_add _ _) ?_
  refine sc_ld (j := i + 1) hx hb hX hbl hbA hS dL_law_389 (by omega) (by omega) ?_
  refine lv_aload_n hx hb dL_law_390 rfl (lv_at hl 0 rfl) ?_
  refine lv_iload_n hx hb dL_law_391 rfl (lv_at hl 3 rfl) ?_
  refine lv_iconst (v := nI 2) hx hb dL_law_392 (by decide) ?_
  refine lv_iadd hx hb dL_law_393 ?_
  refine tp_i (y := nI (i + 2)) (nI_add _ _) ?_
  refine sc_ld (j := i + 2) hx hb hX hbl hbA hS dL_law_394 (by omega) (by omega) ?_
  refine lw_kM (va_runV (As := [.int (xs (i + 1)), .int (xs (i + 2))]) (rest := [.int r]) ⟨hx, hb, hml, hown, hts⟩ (qM H.size) (cwV 2 hts gLw_M_compare_55 rfl rfl rfl (by decide +kernel) ⟨Nat.le_of_ble_eq_true rfl, Nat.le_of_ble_eq_true rfl⟩) (rw_preV (hP.sub [15, 16, 17, 18, 19, 20, 21, 22, 23, 24, 25] rfl) hK (hD.sub [15, 16, 17, 18, 19, 20, 21, 22, 23, 24, 25] (by decide) rfl) (va_recv hK hP (ci := 3) (q0 := 15) rfl rfl)) rfl rfl hl.1 rfl (lv_room (Nat.le_of_ble_eq_true rfl)) dL_law_395 hcs) hP hD hS hA (fun H locs Sm α β γ Rk2 hM hP hD hS => ?_)
  exact lv_icmp_eq (tgt := 825) hx hb dL_law_398 (by decide) (fun _ => kk _ _ ⟨n', tp', P', Hh', Ch, Tm', Bt', Zb', val', Wk, Rk, pr, kn, fd, fr, fq, Sm, α, β, γ, Rk2, hI', hC, hM, hP, hD, hS⟩ ls hl) (fun c9 => absurd rfl c9)

set_option maxRecDepth 100000 in
set_option maxHeartbeats 4000000 in
theorem lc_tip {p : Program} {l : Launch} {e : Env} {s : State} {m : MethodId} {below : List Frame} {meth : Method} {c : Code} {b L : Nat} {xs : Nat → Int32} (hL : L ≤ 4610) (C0 : lw_At p s m meth c b L xs) {D : va_G} {cI cJ cZ : ClassId} (hK : va_K D vwCl (gT cI cJ cZ) s) {cells slots : Nat} (hcs : cells ≤ 600000 ∧ slots ≤ 7302250) {Q : State → Prop} {rm i : Nat} (hi : i + 9 ≤ L) {ad ae : Nat → Nat} {H : Heap} {locs : List Loc} (hJ : LwI D cI cJ cZ s rm ad ae H locs) {ls : Array Slot} (hl : lv_has ls 4 [(0, .ref b), (1, .ref (ad 0)), (2, .ref (ae 0)), (3, .int (nI i))])
    (kk : ∀ (H : Heap) (locs : List Loc), LwI D cI cJ cZ s rm ad ae H locs → ∀ (ls : Array Slot), lv_has ls 4 [(0, .ref b), (1, .ref (ad 0)), (2, .ref (ae 0)), (3, .int (nI i))] → W p l e room_1 s m #[Value.ref b] below meth c H locs cells slots Q (F0 m 825 ls [])) : W p l e room_1 s m #[Value.ref b] below meth c H locs cells slots Q (F0 m 403 ls []) := by
  obtain ⟨hx, hb, hr, hml, hown, hts0, hX, hbl, hlocks, hgv⟩ := id C0
  have hts : ∀ w ∈ wLw, w.before #[Value.ref b] s = true := fun w h => hts0 w (inLw w h)
  have hA : ∀ q : Nat, s.heap.size ≤ q → (fun q : Nat => s.heap.size ≤ q) q := fun _ h => h
  have hbA : ¬ (fun q : Nat => s.heap.size ≤ q) b := Nat.not_le.mpr hbl
  obtain ⟨n, tp, P, Hh, Ch, Tm, Bt, Zb, val, Wk, Rk, pr, kn, fd, fr, fq, Sm, α, β, γ, Rk2, hI, hC, hM, hP, hD, hS⟩ := hJ
  obtain ⟨r, n', tp', P', Hh', Tm', Bt', Zb', val', hI', qT, qM⟩ := b_tip l D cI cJ cZ ad ae hI hC hM 
  refine lv_aload_n hx hb dL_law_403 rfl (lv_at hl 1 rfl) ?_
  refine lw_kT (va_runV (As := []) (rest := []) ⟨hx, hb, hml, hown, hts⟩ (qT H.size) (cwV 0 hts gLw_T_tip_56 rfl rfl rfl (by decide +kernel) ⟨Nat.le_of_ble_eq_true rfl, Nat.le_of_ble_eq_true rfl⟩) (rw_preV (hP.sub [0, 1, 2, 3, 4, 5, 6, 7, 8, 9, 10, 11, 12, 13, 14] rfl) hK (hD.sub [0, 1, 2, 3, 4, 5, 6, 7, 8, 9, 10, 11, 12, 13, 14] (by decide) rfl) (va_recv hK hP (ci := 2) (q0 := 0) rfl rfl)) rfl rfl hl.1 rfl (lv_room (Nat.le_of_ble_eq_true rfl)) dL_law_404 hcs) hP hD hS hA (fun H locs Ch Wk Rk pr kn fd fr fq hC hP hD hS => ?_)
  refine lv_aload_n hx hb dL_law_407 rfl (lv_at hl 2 rfl) ?_
  refine lw_kM (va_runV (As := []) (rest := [.int r]) ⟨hx, hb, hml, hown, hts⟩ (qM H.size) (cwV 0 hts gLw_M_tip_60 rfl rfl rfl (by decide +kernel) ⟨Nat.le_of_ble_eq_true rfl, Nat.le_of_ble_eq_true rfl⟩) (rw_preV (hP.sub [15, 16, 17, 18, 19, 20, 21, 22, 23, 24, 25] rfl) hK (hD.sub [15, 16, 17, 18, 19, 20, 21, 22, 23, 24, 25] (by decide) rfl) (va_recv hK hP (ci := 3) (q0 := 15) rfl rfl)) rfl rfl hl.1 rfl (lv_room (Nat.le_of_ble_eq_true rfl)) dL_law_408 hcs) hP hD hS hA (fun H locs Sm α β γ Rk2 hM hP hD hS => ?_)
  exact lv_icmp_eq (tgt := 825) hx hb dL_law_411 (by decide) (fun _ => kk _ _ ⟨n', tp', P', Hh', Ch, Tm', Bt', Zb', val', Wk, Rk, pr, kn, fd, fr, fq, Sm, α, β, γ, Rk2, hI', hC, hM, hP, hD, hS⟩ ls hl) (fun c9 => absurd rfl c9)

set_option maxRecDepth 100000 in
set_option maxHeartbeats 4000000 in
theorem lc_size {p : Program} {l : Launch} {e : Env} {s : State} {m : MethodId} {below : List Frame} {meth : Method} {c : Code} {b L : Nat} {xs : Nat → Int32} (hL : L ≤ 4610) (C0 : lw_At p s m meth c b L xs) {D : va_G} {cI cJ cZ : ClassId} (hK : va_K D vwCl (gT cI cJ cZ) s) {cells slots : Nat} (hcs : cells ≤ 600000 ∧ slots ≤ 7302250) {Q : State → Prop} {rm i : Nat} (hi : i + 9 ≤ L) {ad ae : Nat → Nat} {H : Heap} {locs : List Loc} (hJ : LwI D cI cJ cZ s rm ad ae H locs) {ls : Array Slot} (hl : lv_has ls 4 [(0, .ref b), (1, .ref (ad 0)), (2, .ref (ae 0)), (3, .int (nI i))])
    (kk : ∀ (H : Heap) (locs : List Loc), LwI D cI cJ cZ s rm ad ae H locs → ∀ (ls : Array Slot), lv_has ls 4 [(0, .ref b), (1, .ref (ad 0)), (2, .ref (ae 0)), (3, .int (nI i))] → W p l e room_1 s m #[Value.ref b] below meth c H locs cells slots Q (F0 m 825 ls [])) : W p l e room_1 s m #[Value.ref b] below meth c H locs cells slots Q (F0 m 416 ls []) := by
  obtain ⟨hx, hb, hr, hml, hown, hts0, hX, hbl, hlocks, hgv⟩ := id C0
  have hts : ∀ w ∈ wLw, w.before #[Value.ref b] s = true := fun w h => hts0 w (inLw w h)
  have hA : ∀ q : Nat, s.heap.size ≤ q → (fun q : Nat => s.heap.size ≤ q) q := fun _ h => h
  have hbA : ¬ (fun q : Nat => s.heap.size ≤ q) b := Nat.not_le.mpr hbl
  obtain ⟨n, tp, P, Hh, Ch, Tm, Bt, Zb, val, Wk, Rk, pr, kn, fd, fr, fq, Sm, α, β, γ, Rk2, hI, hC, hM, hP, hD, hS⟩ := hJ
  obtain ⟨r, n', tp', P', Hh', Tm', Bt', Zb', val', hI', qT, qM⟩ := b_size l D cI cJ cZ ad ae hI hC hM 
  refine lv_aload_n hx hb dL_law_416 rfl (lv_at hl 1 rfl) ?_
  refine lw_kT (va_runV (As := []) (rest := []) ⟨hx, hb, hml, hown, hts⟩ (qT H.size) (cwV 0 hts gLw_T_size_61 rfl rfl rfl (by decide +kernel) ⟨Nat.le_of_ble_eq_true rfl, Nat.le_of_ble_eq_true rfl⟩) (rw_preV (hP.sub [0, 1, 2, 3, 4, 5, 6, 7, 8, 9, 10, 11, 12, 13, 14] rfl) hK (hD.sub [0, 1, 2, 3, 4, 5, 6, 7, 8, 9, 10, 11, 12, 13, 14] (by decide) rfl) (va_recv hK hP (ci := 2) (q0 := 0) rfl rfl)) rfl rfl hl.1 rfl (lv_room (Nat.le_of_ble_eq_true rfl)) dL_law_417 hcs) hP hD hS hA (fun H locs Ch Wk Rk pr kn fd fr fq hC hP hD hS => ?_)
  refine lv_aload_n hx hb dL_law_420 rfl (lv_at hl 2 rfl) ?_
  refine lw_kM (va_runV (As := []) (rest := [.int r]) ⟨hx, hb, hml, hown, hts⟩ (qM H.size) (cwV 0 hts gLw_M_size_64 rfl rfl rfl (by decide +kernel) ⟨Nat.le_of_ble_eq_true rfl, Nat.le_of_ble_eq_true rfl⟩) (rw_preV (hP.sub [15, 16, 17, 18, 19, 20, 21, 22, 23, 24, 25] rfl) hK (hD.sub [15, 16, 17, 18, 19, 20, 21, 22, 23, 24, 25] (by decide) rfl) (va_recv hK hP (ci := 3) (q0 := 15) rfl rfl)) rfl rfl hl.1 rfl (lv_room (Nat.le_of_ble_eq_true rfl)) dL_law_421 hcs) hP hD hS hA (fun H locs Sm α β γ Rk2 hM hP hD hS => ?_)
  exact lv_icmp_eq (tgt := 825) hx hb dL_law_424 (by decide) (fun _ => kk _ _ ⟨n', tp', P', Hh', Ch, Tm', Bt', Zb', val', Wk, Rk, pr, kn, fd, fr, fq, Sm, α, β, γ, Rk2, hI', hC, hM, hP, hD, hS⟩ ls hl) (fun c9 => absurd rfl c9)

set_option maxRecDepth 100000 in
set_option maxHeartbeats 4000000 in
theorem lc_below {p : Program} {l : Launch} {e : Env} {s : State} {m : MethodId} {below : List Frame} {meth : Method} {c : Code} {b L : Nat} {xs : Nat → Int32} (hL : L ≤ 4610) (C0 : lw_At p s m meth c b L xs) {D : va_G} {cI cJ cZ : ClassId} (hK : va_K D vwCl (gT cI cJ cZ) s) {cells slots : Nat} (hcs : cells ≤ 600000 ∧ slots ≤ 7302250) {Q : State → Prop} {rm i : Nat} (hi : i + 9 ≤ L) {ad ae : Nat → Nat} {H : Heap} {locs : List Loc} (hJ : LwI D cI cJ cZ s rm ad ae H locs) {ls : Array Slot} (hl : lv_has ls 4 [(0, .ref b), (1, .ref (ad 0)), (2, .ref (ae 0)), (3, .int (nI i))])
    (kk : ∀ (H : Heap) (locs : List Loc), LwI D cI cJ cZ s rm ad ae H locs → ∀ (ls : Array Slot), lv_has ls 4 [(0, .ref b), (1, .ref (ad 0)), (2, .ref (ae 0)), (3, .int (nI i))] → W p l e room_1 s m #[Value.ref b] below meth c H locs cells slots Q (F0 m 825 ls [])) : W p l e room_1 s m #[Value.ref b] below meth c H locs cells slots Q (F0 m 429 ls []) := by
  obtain ⟨hx, hb, hr, hml, hown, hts0, hX, hbl, hlocks, hgv⟩ := id C0
  have hts : ∀ w ∈ wLw, w.before #[Value.ref b] s = true := fun w h => hts0 w (inLw w h)
  have hA : ∀ q : Nat, s.heap.size ≤ q → (fun q : Nat => s.heap.size ≤ q) q := fun _ h => h
  have hbA : ¬ (fun q : Nat => s.heap.size ≤ q) b := Nat.not_le.mpr hbl
  obtain ⟨n, tp, P, Hh, Ch, Tm, Bt, Zb, val, Wk, Rk, pr, kn, fd, fr, fq, Sm, α, β, γ, Rk2, hI, hC, hM, hP, hD, hS⟩ := hJ
  obtain ⟨r, n', tp', P', Hh', Tm', Bt', Zb', val', hI', qT, qM⟩ := b_below l D cI cJ cZ ad ae hI hC hM (xs (i + 1)) (xs (i + 2))
  refine lv_aload_n hx hb dL_law_429 rfl (lv_at hl 1 rfl) ?_
  refine lv_aload_n hx hb dL_law_430 rfl (lv_at hl 0 rfl) ?_
  refine lv_iload_n hx hb dL_law_431 rfl (lv_at hl 3 rfl) ?_
  refine lv_iconst (v := nI 1) hx hb dL_law_432 (by decide) ?_
  refine lv_iadd hx hb dL_law_433 ?_
  refine tp_i (y := nI (i + 1)) (nI_add _ _) ?_
  refine sc_ld (j := i + 1) hx hb hX hbl hbA hS dL_law_434 (by omega) (by omega) ?_
  refine lv_aload_n hx hb dL_law_435 rfl (lv_at hl 0 rfl) ?_
  refine lv_iload_n hx hb dL_law_436 rfl (lv_at hl 3 rfl) ?_
  refine lv_iconst (v := nI 2) hx hb dL_law_437 (by decide) ?_
  refine lv_iadd hx hb dL_law_438 ?_
  refine tp_i (y := nI (i + 2)) (nI_add _ _) ?_
  refine sc_ld (j := i + 2) hx hb hX hbl hbA hS dL_law_439 (by omega) (by omega) ?_
  refine lw_kT (va_runV (As := [.int (xs (i + 1)), .int (xs (i + 2))]) (rest := []) ⟨hx, hb, hml, hown, hts⟩ (qT H.size) (cwV 2 hts gLw_T_below_65 rfl rfl rfl (by decide +kernel) ⟨Nat.le_of_ble_eq_true rfl, Nat.le_of_ble_eq_true rfl⟩) (rw_preV (hP.sub [0, 1, 2, 3, 4, 5, 6, 7, 8, 9, 10, 11, 12, 13, 14] rfl) hK (hD.sub [0, 1, 2, 3, 4, 5, 6, 7, 8, 9, 10, 11, 12, 13, 14] (by decide) rfl) (va_recv hK hP (ci := 2) (q0 := 0) rfl rfl)) rfl rfl hl.1 rfl (lv_room (Nat.le_of_ble_eq_true rfl)) dL_law_440 hcs) hP hD hS hA (fun H locs Ch Wk Rk pr kn fd fr fq hC hP hD hS => ?_)
  refine lv_aload_n hx hb dL_law_443 rfl (lv_at hl 2 rfl) ?_
  refine lv_aload_n hx hb dL_law_444 rfl (lv_at hl 0 rfl) ?_
  refine lv_iload_n hx hb dL_law_445 rfl (lv_at hl 3 rfl) ?_
  refine lv_iconst (v := nI 1) hx hb dL_law_446 (by decide) ?_
  refine lv_iadd hx hb dL_law_447 ?_
  refine tp_i (y := nI (i + 1)) (nI_add _ _) ?_
  refine sc_ld (j := i + 1) hx hb hX hbl hbA hS dL_law_448 (by omega) (by omega) ?_
  refine lv_aload_n hx hb dL_law_449 rfl (lv_at hl 0 rfl) ?_
  refine lv_iload_n hx hb dL_law_450 rfl (lv_at hl 3 rfl) ?_
  refine lv_iconst (v := nI 2) hx hb dL_law_451 (by decide) ?_
  refine lv_iadd hx hb dL_law_452 ?_
  refine tp_i (y := nI (i + 2)) (nI_add _ _) ?_
  refine sc_ld (j := i + 2) hx hb hX hbl hbA hS dL_law_453 (by omega) (by omega) ?_
  refine lw_kM (va_runV (As := [.int (xs (i + 1)), .int (xs (i + 2))]) (rest := [.int r]) ⟨hx, hb, hml, hown, hts⟩ (qM H.size) (cwV 2 hts gLw_M_below_68 rfl rfl rfl (by decide +kernel) ⟨Nat.le_of_ble_eq_true rfl, Nat.le_of_ble_eq_true rfl⟩) (rw_preV (hP.sub [15, 16, 17, 18, 19, 20, 21, 22, 23, 24, 25] rfl) hK (hD.sub [15, 16, 17, 18, 19, 20, 21, 22, 23, 24, 25] (by decide) rfl) (va_recv hK hP (ci := 3) (q0 := 15) rfl rfl)) rfl rfl hl.1 rfl (lv_room (Nat.le_of_ble_eq_true rfl)) dL_law_454 hcs) hP hD hS hA (fun H locs Sm α β γ Rk2 hM hP hD hS => ?_)
  exact lv_icmp_eq (tgt := 825) hx hb dL_law_457 (by decide) (fun _ => kk _ _ ⟨n', tp', P', Hh', Ch, Tm', Bt', Zb', val', Wk, Rk, pr, kn, fd, fr, fq, Sm, α, β, γ, Rk2, hI', hC, hM, hP, hD, hS⟩ ls hl) (fun c9 => absurd rfl c9)

set_option maxRecDepth 100000 in
set_option maxHeartbeats 4000000 in
theorem lc_fork {p : Program} {l : Launch} {e : Env} {s : State} {m : MethodId} {below : List Frame} {meth : Method} {c : Code} {b L : Nat} {xs : Nat → Int32} (hL : L ≤ 4610) (C0 : lw_At p s m meth c b L xs) {D : va_G} {cI cJ cZ : ClassId} (hK : va_K D vwCl (gT cI cJ cZ) s) {cells slots : Nat} (hcs : cells ≤ 600000 ∧ slots ≤ 7302250) {Q : State → Prop} {rm i : Nat} (hi : i + 9 ≤ L) {ad ae : Nat → Nat} {H : Heap} {locs : List Loc} (hJ : LwI D cI cJ cZ s rm ad ae H locs) {ls : Array Slot} (hl : lv_has ls 4 [(0, .ref b), (1, .ref (ad 0)), (2, .ref (ae 0)), (3, .int (nI i))])
    (kk : ∀ (H : Heap) (locs : List Loc), LwI D cI cJ cZ s rm ad ae H locs → ∀ (ls : Array Slot), lv_has ls 4 [(0, .ref b), (1, .ref (ad 0)), (2, .ref (ae 0)), (3, .int (nI i))] → W p l e room_1 s m #[Value.ref b] below meth c H locs cells slots Q (F0 m 825 ls [])) : W p l e room_1 s m #[Value.ref b] below meth c H locs cells slots Q (F0 m 462 ls []) := by
  obtain ⟨hx, hb, hr, hml, hown, hts0, hX, hbl, hlocks, hgv⟩ := id C0
  have hts : ∀ w ∈ wLw, w.before #[Value.ref b] s = true := fun w h => hts0 w (inLw w h)
  have hA : ∀ q : Nat, s.heap.size ≤ q → (fun q : Nat => s.heap.size ≤ q) q := fun _ h => h
  have hbA : ¬ (fun q : Nat => s.heap.size ≤ q) b := Nat.not_le.mpr hbl
  obtain ⟨n, tp, P, Hh, Ch, Tm, Bt, Zb, val, Wk, Rk, pr, kn, fd, fr, fq, Sm, α, β, γ, Rk2, hI, hC, hM, hP, hD, hS⟩ := hJ
  obtain ⟨r, n', tp', P', Hh', Tm', Bt', Zb', val', hI', qT, qM⟩ := b_fork l D cI cJ cZ ad ae hI hC hM (xs (i + 1)) (xs (i + 2))
  refine lv_aload_n hx hb dL_law_462 rfl (lv_at hl 1 rfl) ?_
  refine lv_aload_n hx hb dL_law_463 rfl (lv_at hl 0 rfl) ?_
  refine lv_iload_n hx hb dL_law_464 rfl (lv_at hl 3 rfl) ?_
  refine lv_iconst (v := nI 1) hx hb dL_law_465 (by decide) ?_
  refine lv_iadd hx hb dL_law_466 ?_
  refine tp_i (y := nI (i + 1)) (nI_add _ _) ?_
  refine sc_ld (j := i + 1) hx hb hX hbl hbA hS dL_law_467 (by omega) (by omega) ?_
  refine lv_aload_n hx hb dL_law_468 rfl (lv_at hl 0 rfl) ?_
  refine lv_iload_n hx hb dL_law_469 rfl (lv_at hl 3 rfl) ?_
  refine lv_iconst (v := nI 2) hx hb dL_law_470 (by decide) ?_
  refine lv_iadd hx hb dL_law_471 ?_
  refine tp_i (y := nI (i + 2)) (nI_add _ _) ?_
  refine sc_ld (j := i + 2) hx hb hX hbl hbA hS dL_law_472 (by omega) (by omega) ?_
  refine lw_kT (va_runV (As := [.int (xs (i + 1)), .int (xs (i + 2))]) (rest := []) ⟨hx, hb, hml, hown, hts⟩ (qT H.size) (cwV 2 hts gLw_T_fork_69 rfl rfl rfl (by decide +kernel) ⟨Nat.le_of_ble_eq_true rfl, Nat.le_of_ble_eq_true rfl⟩) (rw_preV (hP.sub [0, 1, 2, 3, 4, 5, 6, 7, 8, 9, 10, 11, 12, 13, 14] rfl) hK (hD.sub [0, 1, 2, 3, 4, 5, 6, 7, 8, 9, 10, 11, 12, 13, 14] (by decide) rfl) (va_recv hK hP (ci := 2) (q0 := 0) rfl rfl)) rfl rfl hl.1 rfl (lv_room (Nat.le_of_ble_eq_true rfl)) dL_law_473 hcs) hP hD hS hA (fun H locs Ch Wk Rk pr kn fd fr fq hC hP hD hS => ?_)
  refine lv_aload_n hx hb dL_law_476 rfl (lv_at hl 2 rfl) ?_
  refine lv_aload_n hx hb dL_law_477 rfl (lv_at hl 0 rfl) ?_
  refine lv_iload_n hx hb dL_law_478 rfl (lv_at hl 3 rfl) ?_
  refine lv_iconst (v := nI 1) hx hb dL_law_479 (by decide) ?_
  refine lv_iadd hx hb dL_law_480 ?_
  refine tp_i (y := nI (i + 1)) (nI_add _ _) ?_
  refine sc_ld (j := i + 1) hx hb hX hbl hbA hS dL_law_481 (by omega) (by omega) ?_
  refine lv_aload_n hx hb dL_law_482 rfl (lv_at hl 0 rfl) ?_
  refine lv_iload_n hx hb dL_law_483 rfl (lv_at hl 3 rfl) ?_
  refine lv_iconst (v := nI 2) hx hb dL_law_484 (by decide) ?_
  refine lv_iadd hx hb dL_law_485 ?_
  refine tp_i (y := nI (i + 2)) (nI_add _ _) ?_
  refine sc_ld (j := i + 2) hx hb hX hbl hbA hS dL_law_486 (by omega) (by omega) ?_
  refine lw_kM (va_runV (As := [.int (xs (i + 1)), .int (xs (i + 2))]) (rest := [.int r]) ⟨hx, hb, hml, hown, hts⟩ (qM H.size) (cwV 2 hts gLw_M_fork_72 rfl rfl rfl (by decide +kernel) ⟨Nat.le_of_ble_eq_true rfl, Nat.le_of_ble_eq_true rfl⟩) (rw_preV (hP.sub [15, 16, 17, 18, 19, 20, 21, 22, 23, 24, 25] rfl) hK (hD.sub [15, 16, 17, 18, 19, 20, 21, 22, 23, 24, 25] (by decide) rfl) (va_recv hK hP (ci := 3) (q0 := 15) rfl rfl)) rfl rfl hl.1 rfl (lv_room (Nat.le_of_ble_eq_true rfl)) dL_law_487 hcs) hP hD hS hA (fun H locs Sm α β γ Rk2 hM hP hD hS => ?_)
  exact lv_icmp_eq (tgt := 825) hx hb dL_law_490 (by decide) (fun _ => kk _ _ ⟨n', tp', P', Hh', Ch, Tm', Bt', Zb', val', Wk, Rk, pr, kn, fd, fr, fq, Sm, α, β, γ, Rk2, hI', hC, hM, hP, hD, hS⟩ ls hl) (fun c9 => absurd rfl c9)

set_option maxRecDepth 100000 in
set_option maxHeartbeats 4000000 in
theorem lc_row {p : Program} {l : Launch} {e : Env} {s : State} {m : MethodId} {below : List Frame} {meth : Method} {c : Code} {b L : Nat} {xs : Nat → Int32} (hL : L ≤ 4610) (C0 : lw_At p s m meth c b L xs) {D : va_G} {cI cJ cZ : ClassId} (hK : va_K D vwCl (gT cI cJ cZ) s) {cells slots : Nat} (hcs : cells ≤ 600000 ∧ slots ≤ 7302250) {Q : State → Prop} {rm i : Nat} (hi : i + 9 ≤ L) {ad ae : Nat → Nat} {H : Heap} {locs : List Loc} (hJ : LwI D cI cJ cZ s rm ad ae H locs) {ls : Array Slot} (hl : lv_has ls 4 [(0, .ref b), (1, .ref (ad 0)), (2, .ref (ae 0)), (3, .int (nI i))])
    (kk : ∀ (H : Heap) (locs : List Loc), LwI D cI cJ cZ s rm ad ae H locs → ∀ (ls : Array Slot), lv_has ls 4 [(0, .ref b), (1, .ref (ad 0)), (2, .ref (ae 0)), (3, .int (nI i))] → W p l e room_1 s m #[Value.ref b] below meth c H locs cells slots Q (F0 m 825 ls [])) : W p l e room_1 s m #[Value.ref b] below meth c H locs cells slots Q (F0 m 495 ls []) := by
  obtain ⟨hx, hb, hr, hml, hown, hts0, hX, hbl, hlocks, hgv⟩ := id C0
  have hts : ∀ w ∈ wLw, w.before #[Value.ref b] s = true := fun w h => hts0 w (inLw w h)
  have hA : ∀ q : Nat, s.heap.size ≤ q → (fun q : Nat => s.heap.size ≤ q) q := fun _ h => h
  have hbA : ¬ (fun q : Nat => s.heap.size ≤ q) b := Nat.not_le.mpr hbl
  obtain ⟨n, tp, P, Hh, Ch, Tm, Bt, Zb, val, Wk, Rk, pr, kn, fd, fr, fq, Sm, α, β, γ, Rk2, hI, hC, hM, hP, hD, hS⟩ := hJ
  obtain ⟨r, n', tp', P', Hh', Tm', Bt', Zb', val', hI', qT, qM⟩ := b_row l D cI cJ cZ ad ae hI hC hM (xs (i + 1)) (xs (i + 2))
  refine lv_aload_n hx hb dL_law_495 rfl (lv_at hl 1 rfl) ?_
  refine lv_aload_n hx hb dL_law_496 rfl (lv_at hl 0 rfl) ?_
  refine lv_iload_n hx hb dL_law_497 rfl (lv_at hl 3 rfl) ?_
  refine lv_iconst (v := nI 1) hx hb dL_law_498 (by decide) ?_
  refine lv_iadd hx hb dL_law_499 ?_
  refine tp_i (y := nI (i + 1)) (nI_add _ _) ?_
  refine sc_ld (j := i + 1) hx hb hX hbl hbA hS dL_law_500 (by omega) (by omega) ?_
  refine lv_aload_n hx hb dL_law_501 rfl (lv_at hl 0 rfl) ?_
  refine lv_iload_n hx hb dL_law_502 rfl (lv_at hl 3 rfl) ?_
  refine lv_iconst (v := nI 2) hx hb dL_law_503 (by decide) ?_
  refine lv_iadd hx hb dL_law_504 ?_
  refine tp_i (y := nI (i + 2)) (nI_add _ _) ?_
  refine sc_ld (j := i + 2) hx hb hX hbl hbA hS dL_law_505 (by omega) (by omega) ?_
  refine lw_kT (va_runV (As := [.int (xs (i + 1)), .int (xs (i + 2))]) (rest := []) ⟨hx, hb, hml, hown, hts⟩ (qT H.size) (cwV 2 hts gLw_T_row_73 rfl rfl rfl (by decide +kernel) ⟨Nat.le_of_ble_eq_true rfl, Nat.le_of_ble_eq_true rfl⟩) (rw_preV (hP.sub [0, 1, 2, 3, 4, 5, 6, 7, 8, 9, 10, 11, 12, 13, 14] rfl) hK (hD.sub [0, 1, 2, 3, 4, 5, 6, 7, 8, 9, 10, 11, 12, 13, 14] (by decide) rfl) (va_recv hK hP (ci := 2) (q0 := 0) rfl rfl)) rfl rfl hl.1 rfl (lv_room (Nat.le_of_ble_eq_true rfl)) dL_law_506 hcs) hP hD hS hA (fun H locs Ch Wk Rk pr kn fd fr fq hC hP hD hS => ?_)
  refine lv_aload_n hx hb dL_law_509 rfl (lv_at hl 2 rfl) ?_
  refine lv_aload_n hx hb dL_law_510 rfl (lv_at hl 0 rfl) ?_
  refine lv_iload_n hx hb dL_law_511 rfl (lv_at hl 3 rfl) ?_
  refine lv_iconst (v := nI 1) hx hb dL_law_512 (by decide) ?_
  refine lv_iadd hx hb dL_law_513 ?_
  refine tp_i (y := nI (i + 1)) (nI_add _ _) ?_
  refine sc_ld (j := i + 1) hx hb hX hbl hbA hS dL_law_514 (by omega) (by omega) ?_
  refine lv_aload_n hx hb dL_law_515 rfl (lv_at hl 0 rfl) ?_
  refine lv_iload_n hx hb dL_law_516 rfl (lv_at hl 3 rfl) ?_
  refine lv_iconst (v := nI 2) hx hb dL_law_517 (by decide) ?_
  refine lv_iadd hx hb dL_law_518 ?_
  refine tp_i (y := nI (i + 2)) (nI_add _ _) ?_
  refine sc_ld (j := i + 2) hx hb hX hbl hbA hS dL_law_519 (by omega) (by omega) ?_
  refine lw_kM (va_runV (As := [.int (xs (i + 1)), .int (xs (i + 2))]) (rest := [.int r]) ⟨hx, hb, hml, hown, hts⟩ (qM H.size) (cwV 2 hts gLw_M_row_76 rfl rfl rfl (by decide +kernel) ⟨Nat.le_of_ble_eq_true rfl, Nat.le_of_ble_eq_true rfl⟩) (rw_preV (hP.sub [15, 16, 17, 18, 19, 20, 21, 22, 23, 24, 25] rfl) hK (hD.sub [15, 16, 17, 18, 19, 20, 21, 22, 23, 24, 25] (by decide) rfl) (va_recv hK hP (ci := 3) (q0 := 15) rfl rfl)) rfl rfl hl.1 rfl (lv_room (Nat.le_of_ble_eq_true rfl)) dL_law_520 hcs) hP hD hS hA (fun H locs Sm α β γ Rk2 hM hP hD hS => ?_)
  exact lv_icmp_eq (tgt := 825) hx hb dL_law_523 (by decide) (fun _ => kk _ _ ⟨n', tp', P', Hh', Ch, Tm', Bt', Zb', val', Wk, Rk, pr, kn, fd, fr, fq, Sm, α, β, γ, Rk2, hI', hC, hM, hP, hD, hS⟩ ls hl) (fun c9 => absurd rfl c9)

set_option maxRecDepth 100000 in
set_option maxHeartbeats 4000000 in
theorem lc_fault {p : Program} {l : Launch} {e : Env} {s : State} {m : MethodId} {below : List Frame} {meth : Method} {c : Code} {b L : Nat} {xs : Nat → Int32} (hL : L ≤ 4610) (C0 : lw_At p s m meth c b L xs) {D : va_G} {cI cJ cZ : ClassId} (hK : va_K D vwCl (gT cI cJ cZ) s) {cells slots : Nat} (hcs : cells ≤ 600000 ∧ slots ≤ 7302250) {Q : State → Prop} {rm i : Nat} (hi : i + 9 ≤ L) {ad ae : Nat → Nat} {H : Heap} {locs : List Loc} (hJ : LwI D cI cJ cZ s rm ad ae H locs) {ls : Array Slot} (hl : lv_has ls 4 [(0, .ref b), (1, .ref (ad 0)), (2, .ref (ae 0)), (3, .int (nI i))])
    (kk : ∀ (H : Heap) (locs : List Loc), LwI D cI cJ cZ s rm ad ae H locs → ∀ (ls : Array Slot), lv_has ls 4 [(0, .ref b), (1, .ref (ad 0)), (2, .ref (ae 0)), (3, .int (nI i))] → W p l e room_1 s m #[Value.ref b] below meth c H locs cells slots Q (F0 m 825 ls [])) : W p l e room_1 s m #[Value.ref b] below meth c H locs cells slots Q (F0 m 528 ls []) := by
  obtain ⟨hx, hb, hr, hml, hown, hts0, hX, hbl, hlocks, hgv⟩ := id C0
  have hts : ∀ w ∈ wLw, w.before #[Value.ref b] s = true := fun w h => hts0 w (inLw w h)
  have hA : ∀ q : Nat, s.heap.size ≤ q → (fun q : Nat => s.heap.size ≤ q) q := fun _ h => h
  have hbA : ¬ (fun q : Nat => s.heap.size ≤ q) b := Nat.not_le.mpr hbl
  have hk21 : (Cond.constantLong RL 21 4294967295).before #[Value.ref b] s = true := hts _ (by decide +kernel)
  obtain ⟨n, tp, P, Hh, Ch, Tm, Bt, Zb, val, Wk, Rk, pr, kn, fd, fr, fq, Sm, α, β, γ, Rk2, hI, hC, hM, hP, hD, hS⟩ := hJ
  obtain ⟨r, n', tp', P', Hh', Tm', Bt', Zb', val', hI', qT, qM⟩ := b_fault l D cI cJ cZ ad ae hI hC hM ((j_shl ((xs (i + 1)).toInt64) (nI 32)) ||| (((xs (i + 2)).toInt64) &&& 4294967295))
  refine lv_aload_n hx hb dL_law_528 rfl (lv_at hl 1 rfl) ?_
  refine lv_aload_n hx hb dL_law_529 rfl (lv_at hl 0 rfl) ?_
  refine lv_iload_n hx hb dL_law_530 rfl (lv_at hl 3 rfl) ?_
  refine lv_iconst (v := nI 1) hx hb dL_law_531 (by decide) ?_
  refine lv_iadd hx hb dL_law_532 ?_
  refine tp_i (y := nI (i + 1)) (nI_add _ _) ?_
  refine sc_ld (j := i + 1) hx hb hX hbl hbA hS dL_law_533 (by omega) (by omega) ?_
  refine lv_i2l (v := (xs (i + 1)).toInt64) hx hb dL_law_534 rfl ?_
  refine lv_bipush (v := nI 32) hx hb dL_law_535 (by decide) ?_
  refine lv_lshl (v := j_shl ((xs (i + 1)).toInt64) (nI 32)) hx hb dL_law_537 rfl ?_
  refine lv_aload_n hx hb dL_law_538 rfl (lv_at hl 0 rfl) ?_
  refine lv_iload_n hx hb dL_law_539 rfl (lv_at hl 3 rfl) ?_
  refine lv_iconst (v := nI 2) hx hb dL_law_540 (by decide) ?_
  refine lv_iadd hx hb dL_law_541 ?_
  refine tp_i (y := nI (i + 2)) (nI_add _ _) ?_
  refine sc_ld (j := i + 2) hx hb hX hbl hbA hS dL_law_542 (by omega) (by omega) ?_
  refine lv_i2l (v := (xs (i + 2)).toInt64) hx hb dL_law_543 rfl ?_
  refine lv_ldc2 (v := 4294967295) hx hb hown hk21 dL_law_544 ?_
  refine lv_land hx hb dL_law_547 ?_
  refine lv_lor hx hb dL_law_548 ?_
  refine lw_kT (va_runV (As := [.long ((j_shl ((xs (i + 1)).toInt64) (nI 32)) ||| (((xs (i + 2)).toInt64) &&& 4294967295))]) (rest := []) ⟨hx, hb, hml, hown, hts⟩ (qT H.size) (cwV 1 hts gLw_T_fault_77 rfl rfl rfl (by decide +kernel) ⟨Nat.le_of_ble_eq_true rfl, Nat.le_of_ble_eq_true rfl⟩) (rw_preV (hP.sub [0, 1, 2, 3, 4, 5, 6, 7, 8, 9, 10, 11, 12, 13, 14] rfl) hK (hD.sub [0, 1, 2, 3, 4, 5, 6, 7, 8, 9, 10, 11, 12, 13, 14] (by decide) rfl) (va_recv hK hP (ci := 2) (q0 := 0) rfl rfl)) rfl rfl hl.1 rfl (lv_room (Nat.le_of_ble_eq_true rfl)) dL_law_549 hcs) hP hD hS hA (fun H locs Ch Wk Rk pr kn fd fr fq hC hP hD hS => ?_)
  refine lv_aload_n hx hb dL_law_552 rfl (lv_at hl 2 rfl) ?_
  refine lv_aload_n hx hb dL_law_553 rfl (lv_at hl 0 rfl) ?_
  refine lv_iload_n hx hb dL_law_554 rfl (lv_at hl 3 rfl) ?_
  refine lv_iconst (v := nI 1) hx hb dL_law_555 (by decide) ?_
  refine lv_iadd hx hb dL_law_556 ?_
  refine tp_i (y := nI (i + 1)) (nI_add _ _) ?_
  refine sc_ld (j := i + 1) hx hb hX hbl hbA hS dL_law_557 (by omega) (by omega) ?_
  refine lv_i2l (v := (xs (i + 1)).toInt64) hx hb dL_law_558 rfl ?_
  refine lv_bipush (v := nI 32) hx hb dL_law_559 (by decide) ?_
  refine lv_lshl (v := j_shl ((xs (i + 1)).toInt64) (nI 32)) hx hb dL_law_561 rfl ?_
  refine lv_aload_n hx hb dL_law_562 rfl (lv_at hl 0 rfl) ?_
  refine lv_iload_n hx hb dL_law_563 rfl (lv_at hl 3 rfl) ?_
  refine lv_iconst (v := nI 2) hx hb dL_law_564 (by decide) ?_
  refine lv_iadd hx hb dL_law_565 ?_
  refine tp_i (y := nI (i + 2)) (nI_add _ _) ?_
  refine sc_ld (j := i + 2) hx hb hX hbl hbA hS dL_law_566 (by omega) (by omega) ?_
  refine lv_i2l (v := (xs (i + 2)).toInt64) hx hb dL_law_567 rfl ?_
  refine lv_ldc2 (v := 4294967295) hx hb hown hk21 dL_law_568 ?_
  refine lv_land hx hb dL_law_571 ?_
  refine lv_lor hx hb dL_law_572 ?_
  refine lw_kM (va_runV (As := [.long ((j_shl ((xs (i + 1)).toInt64) (nI 32)) ||| (((xs (i + 2)).toInt64) &&& 4294967295))]) (rest := [.int r]) ⟨hx, hb, hml, hown, hts⟩ (qM H.size) (cwV 1 hts gLw_M_fault_81 rfl rfl rfl (by decide +kernel) ⟨Nat.le_of_ble_eq_true rfl, Nat.le_of_ble_eq_true rfl⟩) (rw_preV (hP.sub [15, 16, 17, 18, 19, 20, 21, 22, 23, 24, 25] rfl) hK (hD.sub [15, 16, 17, 18, 19, 20, 21, 22, 23, 24, 25] (by decide) rfl) (va_recv hK hP (ci := 3) (q0 := 15) rfl rfl)) rfl rfl hl.1 rfl (lv_room (Nat.le_of_ble_eq_true rfl)) dL_law_573 hcs) hP hD hS hA (fun H locs Sm α β γ Rk2 hM hP hD hS => ?_)
  exact lv_icmp_eq (tgt := 825) hx hb dL_law_576 (by decide) (fun _ => kk _ _ ⟨n', tp', P', Hh', Ch, Tm', Bt', Zb', val', Wk, Rk, pr, kn, fd, fr, fq, Sm, α, β, γ, Rk2, hI', hC, hM, hP, hD, hS⟩ ls hl) (fun c9 => absurd rfl c9)

set_option maxRecDepth 100000 in
set_option maxHeartbeats 4000000 in
theorem lc_target {p : Program} {l : Launch} {e : Env} {s : State} {m : MethodId} {below : List Frame} {meth : Method} {c : Code} {b L : Nat} {xs : Nat → Int32} (hL : L ≤ 4610) (C0 : lw_At p s m meth c b L xs) {D : va_G} {cI cJ cZ : ClassId} (hK : va_K D vwCl (gT cI cJ cZ) s) {cells slots : Nat} (hcs : cells ≤ 600000 ∧ slots ≤ 7302250) {Q : State → Prop} {rm i : Nat} (hi : i + 9 ≤ L) {ad ae : Nat → Nat} {H : Heap} {locs : List Loc} (hJ : LwI D cI cJ cZ s rm ad ae H locs) {ls : Array Slot} (hl : lv_has ls 4 [(0, .ref b), (1, .ref (ad 0)), (2, .ref (ae 0)), (3, .int (nI i))])
    (kk : ∀ (H : Heap) (locs : List Loc), LwI D cI cJ cZ s rm ad ae H locs → ∀ (ls : Array Slot), lv_has ls 4 [(0, .ref b), (1, .ref (ad 0)), (2, .ref (ae 0)), (3, .int (nI i))] → W p l e room_1 s m #[Value.ref b] below meth c H locs cells slots Q (F0 m 825 ls [])) : W p l e room_1 s m #[Value.ref b] below meth c H locs cells slots Q (F0 m 581 ls []) := by
  obtain ⟨hx, hb, hr, hml, hown, hts0, hX, hbl, hlocks, hgv⟩ := id C0
  have hts : ∀ w ∈ wLw, w.before #[Value.ref b] s = true := fun w h => hts0 w (inLw w h)
  have hA : ∀ q : Nat, s.heap.size ≤ q → (fun q : Nat => s.heap.size ≤ q) q := fun _ h => h
  have hbA : ¬ (fun q : Nat => s.heap.size ≤ q) b := Nat.not_le.mpr hbl
  have hk21 : (Cond.constantLong RL 21 4294967295).before #[Value.ref b] s = true := hts _ (by decide +kernel)
  obtain ⟨n, tp, P, Hh, Ch, Tm, Bt, Zb, val, Wk, Rk, pr, kn, fd, fr, fq, Sm, α, β, γ, Rk2, hI, hC, hM, hP, hD, hS⟩ := hJ
  obtain ⟨r, n', tp', P', Hh', Tm', Bt', Zb', val', hI', qT, qM⟩ := b_target l D cI cJ cZ ad ae hI hC hM ((j_shl ((xs (i + 1)).toInt64) (nI 32)) ||| (((xs (i + 2)).toInt64) &&& 4294967295)) (xs (i + 3))
  refine lv_aload_n hx hb dL_law_581 rfl (lv_at hl 1 rfl) ?_
  refine lv_aload_n hx hb dL_law_582 rfl (lv_at hl 0 rfl) ?_
  refine lv_iload_n hx hb dL_law_583 rfl (lv_at hl 3 rfl) ?_
  refine lv_iconst (v := nI 1) hx hb dL_law_584 (by decide) ?_
  refine lv_iadd hx hb dL_law_585 ?_
  refine tp_i (y := nI (i + 1)) (nI_add _ _) ?_
  refine sc_ld (j := i + 1) hx hb hX hbl hbA hS dL_law_586 (by omega) (by omega) ?_
  refine lv_i2l (v := (xs (i + 1)).toInt64) hx hb dL_law_587 rfl ?_
  refine lv_bipush (v := nI 32) hx hb dL_law_588 (by decide) ?_
  refine lv_lshl (v := j_shl ((xs (i + 1)).toInt64) (nI 32)) hx hb dL_law_590 rfl ?_
  refine lv_aload_n hx hb dL_law_591 rfl (lv_at hl 0 rfl) ?_
  refine lv_iload_n hx hb dL_law_592 rfl (lv_at hl 3 rfl) ?_
  refine lv_iconst (v := nI 2) hx hb dL_law_593 (by decide) ?_
  refine lv_iadd hx hb dL_law_594 ?_
  refine tp_i (y := nI (i + 2)) (nI_add _ _) ?_
  refine sc_ld (j := i + 2) hx hb hX hbl hbA hS dL_law_595 (by omega) (by omega) ?_
  refine lv_i2l (v := (xs (i + 2)).toInt64) hx hb dL_law_596 rfl ?_
  refine lv_ldc2 (v := 4294967295) hx hb hown hk21 dL_law_597 ?_
  refine lv_land hx hb dL_law_600 ?_
  refine lv_lor hx hb dL_law_601 ?_
  refine lv_aload_n hx hb dL_law_602 rfl (lv_at hl 0 rfl) ?_
  refine lv_iload_n hx hb dL_law_603 rfl (lv_at hl 3 rfl) ?_
  refine lv_iconst (v := nI 3) hx hb dL_law_604 (by decide) ?_
  refine lv_iadd hx hb dL_law_605 ?_
  refine tp_i (y := nI (i + 3)) (nI_add _ _) ?_
  refine sc_ld (j := i + 3) hx hb hX hbl hbA hS dL_law_606 (by omega) (by omega) ?_
  refine lw_kT (va_runV (As := [.long ((j_shl ((xs (i + 1)).toInt64) (nI 32)) ||| (((xs (i + 2)).toInt64) &&& 4294967295)), .int (xs (i + 3))]) (rest := []) ⟨hx, hb, hml, hown, hts⟩ (qT H.size) (cwV 2 hts gLw_T_target_82 rfl rfl rfl (by decide +kernel) ⟨Nat.le_of_ble_eq_true rfl, Nat.le_of_ble_eq_true rfl⟩) (rw_preV (hP.sub [0, 1, 2, 3, 4, 5, 6, 7, 8, 9, 10, 11, 12, 13, 14] rfl) hK (hD.sub [0, 1, 2, 3, 4, 5, 6, 7, 8, 9, 10, 11, 12, 13, 14] (by decide) rfl) (va_recv hK hP (ci := 2) (q0 := 0) rfl rfl)) rfl rfl hl.1 rfl (lv_room (Nat.le_of_ble_eq_true rfl)) dL_law_607 hcs) hP hD hS hA (fun H locs Ch Wk Rk pr kn fd fr fq hC hP hD hS => ?_)
  refine lv_aload_n hx hb dL_law_610 rfl (lv_at hl 2 rfl) ?_
  refine lv_aload_n hx hb dL_law_611 rfl (lv_at hl 0 rfl) ?_
  refine lv_iload_n hx hb dL_law_612 rfl (lv_at hl 3 rfl) ?_
  refine lv_iconst (v := nI 1) hx hb dL_law_613 (by decide) ?_
  refine lv_iadd hx hb dL_law_614 ?_
  refine tp_i (y := nI (i + 1)) (nI_add _ _) ?_
  refine sc_ld (j := i + 1) hx hb hX hbl hbA hS dL_law_615 (by omega) (by omega) ?_
  refine lv_i2l (v := (xs (i + 1)).toInt64) hx hb dL_law_616 rfl ?_
  refine lv_bipush (v := nI 32) hx hb dL_law_617 (by decide) ?_
  refine lv_lshl (v := j_shl ((xs (i + 1)).toInt64) (nI 32)) hx hb dL_law_619 rfl ?_
  refine lv_aload_n hx hb dL_law_620 rfl (lv_at hl 0 rfl) ?_
  refine lv_iload_n hx hb dL_law_621 rfl (lv_at hl 3 rfl) ?_
  refine lv_iconst (v := nI 2) hx hb dL_law_622 (by decide) ?_
  refine lv_iadd hx hb dL_law_623 ?_
  refine tp_i (y := nI (i + 2)) (nI_add _ _) ?_
  refine sc_ld (j := i + 2) hx hb hX hbl hbA hS dL_law_624 (by omega) (by omega) ?_
  refine lv_i2l (v := (xs (i + 2)).toInt64) hx hb dL_law_625 rfl ?_
  refine lv_ldc2 (v := 4294967295) hx hb hown hk21 dL_law_626 ?_
  refine lv_land hx hb dL_law_629 ?_
  refine lv_lor hx hb dL_law_630 ?_
  refine lv_aload_n hx hb dL_law_631 rfl (lv_at hl 0 rfl) ?_
  refine lv_iload_n hx hb dL_law_632 rfl (lv_at hl 3 rfl) ?_
  refine lv_iconst (v := nI 3) hx hb dL_law_633 (by decide) ?_
  refine lv_iadd hx hb dL_law_634 ?_
  refine tp_i (y := nI (i + 3)) (nI_add _ _) ?_
  refine sc_ld (j := i + 3) hx hb hX hbl hbA hS dL_law_635 (by omega) (by omega) ?_
  refine lw_kM (va_runV (As := [.long ((j_shl ((xs (i + 1)).toInt64) (nI 32)) ||| (((xs (i + 2)).toInt64) &&& 4294967295)), .int (xs (i + 3))]) (rest := [.long r]) ⟨hx, hb, hml, hown, hts⟩ (qM H.size) (cwV 2 hts gLw_M_target_86 rfl rfl rfl (by decide +kernel) ⟨Nat.le_of_ble_eq_true rfl, Nat.le_of_ble_eq_true rfl⟩) (rw_preV (hP.sub [15, 16, 17, 18, 19, 20, 21, 22, 23, 24, 25] rfl) hK (hD.sub [15, 16, 17, 18, 19, 20, 21, 22, 23, 24, 25] (by decide) rfl) (va_recv hK hP (ci := 3) (q0 := 15) rfl rfl)) rfl rfl hl.1 rfl (lv_room (Nat.le_of_ble_eq_true rfl)) dL_law_636 hcs) hP hD hS hA (fun H locs Sm α β γ Rk2 hM hP hD hS => ?_)
  exact lc_eq (tgt := 825) hx hb dL_law_639 dL_law_640 (by decide) (fun _ => kk _ _ ⟨n', tp', P', Hh', Ch, Tm', Bt', Zb', val', Wk, Rk, pr, kn, fd, fr, fq, Sm, α, β, γ, Rk2, hI', hC, hM, hP, hD, hS⟩ ls hl) (fun c9 => absurd rfl c9)

set_option maxRecDepth 100000 in
set_option maxHeartbeats 4000000 in
theorem lc_compact {p : Program} {l : Launch} {e : Env} {s : State} {m : MethodId} {below : List Frame} {meth : Method} {c : Code} {b L : Nat} {xs : Nat → Int32} (hL : L ≤ 4610) (C0 : lw_At p s m meth c b L xs) {D : va_G} {cI cJ cZ : ClassId} (hK : va_K D vwCl (gT cI cJ cZ) s) {cells slots : Nat} (hcs : cells ≤ 600000 ∧ slots ≤ 7302250) {Q : State → Prop} {rm i : Nat} (hi : i + 9 ≤ L) {ad ae : Nat → Nat} {H : Heap} {locs : List Loc} (hJ : LwI D cI cJ cZ s rm ad ae H locs) {ls : Array Slot} (hl : lv_has ls 4 [(0, .ref b), (1, .ref (ad 0)), (2, .ref (ae 0)), (3, .int (nI i))])
    (kk : ∀ (H : Heap) (locs : List Loc), LwI D cI cJ cZ s rm ad ae H locs → ∀ (ls : Array Slot), lv_has ls 4 [(0, .ref b), (1, .ref (ad 0)), (2, .ref (ae 0)), (3, .int (nI i))] → W p l e room_1 s m #[Value.ref b] below meth c H locs cells slots Q (F0 m 825 ls [])) : W p l e room_1 s m #[Value.ref b] below meth c H locs cells slots Q (F0 m 645 ls []) := by
  obtain ⟨hx, hb, hr, hml, hown, hts0, hX, hbl, hlocks, hgv⟩ := id C0
  have hts : ∀ w ∈ wLw, w.before #[Value.ref b] s = true := fun w h => hts0 w (inLw w h)
  have hA : ∀ q : Nat, s.heap.size ≤ q → (fun q : Nat => s.heap.size ≤ q) q := fun _ h => h
  have hbA : ¬ (fun q : Nat => s.heap.size ≤ q) b := Nat.not_le.mpr hbl
  have hk21 : (Cond.constantLong RL 21 4294967295).before #[Value.ref b] s = true := hts _ (by decide +kernel)
  obtain ⟨n, tp, P, Hh, Ch, Tm, Bt, Zb, val, Wk, Rk, pr, kn, fd, fr, fq, Sm, α, β, γ, Rk2, hI, hC, hM, hP, hD, hS⟩ := hJ
  obtain ⟨r, n', tp', P', Hh', Tm', Bt', Zb', val', hI', qT, qM⟩ := b_compact l D cI cJ cZ ad ae hI hC hM ((j_shl ((xs (i + 1)).toInt64) (nI 32)) ||| (((xs (i + 2)).toInt64) &&& 4294967295)) ((j_shl ((xs (i + 3)).toInt64) (nI 32)) ||| (((xs (i + 4)).toInt64) &&& 4294967295)) ((j_shl ((xs (i + 5)).toInt64) (nI 32)) ||| (((xs (i + 6)).toInt64) &&& 4294967295)) ((j_shl ((xs (i + 7)).toInt64) (nI 32)) ||| (((xs (i + 8)).toInt64) &&& 4294967295))
  refine lv_aload_n hx hb dL_law_645 rfl (lv_at hl 1 rfl) ?_
  refine lv_aload_n hx hb dL_law_646 rfl (lv_at hl 0 rfl) ?_
  refine lv_iload_n hx hb dL_law_647 rfl (lv_at hl 3 rfl) ?_
  refine lv_iconst (v := nI 1) hx hb dL_law_648 (by decide) ?_
  refine lv_iadd hx hb dL_law_649 ?_
  refine tp_i (y := nI (i + 1)) (nI_add _ _) ?_
  refine sc_ld (j := i + 1) hx hb hX hbl hbA hS dL_law_650 (by omega) (by omega) ?_
  refine lv_i2l (v := (xs (i + 1)).toInt64) hx hb dL_law_651 rfl ?_
  refine lv_bipush (v := nI 32) hx hb dL_law_652 (by decide) ?_
  refine lv_lshl (v := j_shl ((xs (i + 1)).toInt64) (nI 32)) hx hb dL_law_654 rfl ?_
  refine lv_aload_n hx hb dL_law_655 rfl (lv_at hl 0 rfl) ?_
  refine lv_iload_n hx hb dL_law_656 rfl (lv_at hl 3 rfl) ?_
  refine lv_iconst (v := nI 2) hx hb dL_law_657 (by decide) ?_
  refine lv_iadd hx hb dL_law_658 ?_
  refine tp_i (y := nI (i + 2)) (nI_add _ _) ?_
  refine sc_ld (j := i + 2) hx hb hX hbl hbA hS dL_law_659 (by omega) (by omega) ?_
  refine lv_i2l (v := (xs (i + 2)).toInt64) hx hb dL_law_660 rfl ?_
  refine lv_ldc2 (v := 4294967295) hx hb hown hk21 dL_law_661 ?_
  refine lv_land hx hb dL_law_664 ?_
  refine lv_lor hx hb dL_law_665 ?_
  refine lv_aload_n hx hb dL_law_666 rfl (lv_at hl 0 rfl) ?_
  refine lv_iload_n hx hb dL_law_667 rfl (lv_at hl 3 rfl) ?_
  refine lv_iconst (v := nI 3) hx hb dL_law_668 (by decide) ?_
  refine lv_iadd hx hb dL_law_669 ?_
  refine tp_i (y := nI (i + 3)) (nI_add _ _) ?_
  refine sc_ld (j := i + 3) hx hb hX hbl hbA hS dL_law_670 (by omega) (by omega) ?_
  refine lv_i2l (v := (xs (i + 3)).toInt64) hx hb dL_law_671 rfl ?_
  refine lv_bipush (v := nI 32) hx hb dL_law_672 (by decide) ?_
  refine lv_lshl (v := j_shl ((xs (i + 3)).toInt64) (nI 32)) hx hb dL_law_674 rfl ?_
  refine lv_aload_n hx hb dL_law_675 rfl (lv_at hl 0 rfl) ?_
  refine lv_iload_n hx hb dL_law_676 rfl (lv_at hl 3 rfl) ?_
  refine lv_iconst (v := nI 4) hx hb dL_law_677 (by decide) ?_
  refine lv_iadd hx hb dL_law_678 ?_
  refine tp_i (y := nI (i + 4)) (nI_add _ _) ?_
  refine sc_ld (j := i + 4) hx hb hX hbl hbA hS dL_law_679 (by omega) (by omega) ?_
  refine lv_i2l (v := (xs (i + 4)).toInt64) hx hb dL_law_680 rfl ?_
  refine lv_ldc2 (v := 4294967295) hx hb hown hk21 dL_law_681 ?_
  refine lv_land hx hb dL_law_684 ?_
  refine lv_lor hx hb dL_law_685 ?_
  refine lv_aload_n hx hb dL_law_686 rfl (lv_at hl 0 rfl) ?_
  refine lv_iload_n hx hb dL_law_687 rfl (lv_at hl 3 rfl) ?_
  refine lv_iconst (v := nI 5) hx hb dL_law_688 (by decide) ?_
  refine lv_iadd hx hb dL_law_689 ?_
  refine tp_i (y := nI (i + 5)) (nI_add _ _) ?_
  refine sc_ld (j := i + 5) hx hb hX hbl hbA hS dL_law_690 (by omega) (by omega) ?_
  refine lv_i2l (v := (xs (i + 5)).toInt64) hx hb dL_law_691 rfl ?_
  refine lv_bipush (v := nI 32) hx hb dL_law_692 (by decide) ?_
  refine lv_lshl (v := j_shl ((xs (i + 5)).toInt64) (nI 32)) hx hb dL_law_694 rfl ?_
  refine lv_aload_n hx hb dL_law_695 rfl (lv_at hl 0 rfl) ?_
  refine lv_iload_n hx hb dL_law_696 rfl (lv_at hl 3 rfl) ?_
  refine lv_bipush (v := nI 6) hx hb dL_law_697 (by decide) ?_
  refine lv_iadd hx hb dL_law_699 ?_
  refine tp_i (y := nI (i + 6)) (nI_add _ _) ?_
  refine sc_ld (j := i + 6) hx hb hX hbl hbA hS dL_law_700 (by omega) (by omega) ?_
  refine lv_i2l (v := (xs (i + 6)).toInt64) hx hb dL_law_701 rfl ?_
  refine lv_ldc2 (v := 4294967295) hx hb hown hk21 dL_law_702 ?_
  refine lv_land hx hb dL_law_705 ?_
  refine lv_lor hx hb dL_law_706 ?_
  refine lv_aload_n hx hb dL_law_707 rfl (lv_at hl 0 rfl) ?_
  refine lv_iload_n hx hb dL_law_708 rfl (lv_at hl 3 rfl) ?_
  refine lv_bipush (v := nI 7) hx hb dL_law_709 (by decide) ?_
  refine lv_iadd hx hb dL_law_711 ?_
  refine tp_i (y := nI (i + 7)) (nI_add _ _) ?_
  refine sc_ld (j := i + 7) hx hb hX hbl hbA hS dL_law_712 (by omega) (by omega) ?_
  refine lv_i2l (v := (xs (i + 7)).toInt64) hx hb dL_law_713 rfl ?_
  refine lv_bipush (v := nI 32) hx hb dL_law_714 (by decide) ?_
  refine lv_lshl (v := j_shl ((xs (i + 7)).toInt64) (nI 32)) hx hb dL_law_716 rfl ?_
  refine lv_aload_n hx hb dL_law_717 rfl (lv_at hl 0 rfl) ?_
  refine lv_iload_n hx hb dL_law_718 rfl (lv_at hl 3 rfl) ?_
  refine lv_bipush (v := nI 8) hx hb dL_law_719 (by decide) ?_
  refine lv_iadd hx hb dL_law_721 ?_
  refine tp_i (y := nI (i + 8)) (nI_add _ _) ?_
  refine sc_ld (j := i + 8) hx hb hX hbl hbA hS dL_law_722 (by omega) (by omega) ?_
  refine lv_i2l (v := (xs (i + 8)).toInt64) hx hb dL_law_723 rfl ?_
  refine lv_ldc2 (v := 4294967295) hx hb hown hk21 dL_law_724 ?_
  refine lv_land hx hb dL_law_727 ?_
  refine lv_lor hx hb dL_law_728 ?_
  refine lw_kT (va_runV (As := [.long ((j_shl ((xs (i + 1)).toInt64) (nI 32)) ||| (((xs (i + 2)).toInt64) &&& 4294967295)), .long ((j_shl ((xs (i + 3)).toInt64) (nI 32)) ||| (((xs (i + 4)).toInt64) &&& 4294967295)), .long ((j_shl ((xs (i + 5)).toInt64) (nI 32)) ||| (((xs (i + 6)).toInt64) &&& 4294967295)), .long ((j_shl ((xs (i + 7)).toInt64) (nI 32)) ||| (((xs (i + 8)).toInt64) &&& 4294967295))]) (rest := []) ⟨hx, hb, hml, hown, hts⟩ (qT H.size) (cwV 4 hts gLw_T_compact_87 rfl rfl rfl (by decide +kernel) ⟨Nat.le_of_ble_eq_true rfl, Nat.le_of_ble_eq_true rfl⟩) (rw_preV (hP.sub [0, 1, 2, 3, 4, 5, 6, 7, 8, 9, 10, 11, 12, 13, 14] rfl) hK (hD.sub [0, 1, 2, 3, 4, 5, 6, 7, 8, 9, 10, 11, 12, 13, 14] (by decide) rfl) (va_recv hK hP (ci := 2) (q0 := 0) rfl rfl)) rfl rfl hl.1 rfl (lv_room (Nat.le_of_ble_eq_true rfl)) dL_law_729 hcs) hP hD hS hA (fun H locs Ch Wk Rk pr kn fd fr fq hC hP hD hS => ?_)
  refine lv_aload_n hx hb dL_law_732 rfl (lv_at hl 2 rfl) ?_
  refine lv_aload_n hx hb dL_law_733 rfl (lv_at hl 0 rfl) ?_
  refine lv_iload_n hx hb dL_law_734 rfl (lv_at hl 3 rfl) ?_
  refine lv_iconst (v := nI 1) hx hb dL_law_735 (by decide) ?_
  refine lv_iadd hx hb dL_law_736 ?_
  refine tp_i (y := nI (i + 1)) (nI_add _ _) ?_
  refine sc_ld (j := i + 1) hx hb hX hbl hbA hS dL_law_737 (by omega) (by omega) ?_
  refine lv_i2l (v := (xs (i + 1)).toInt64) hx hb dL_law_738 rfl ?_
  refine lv_bipush (v := nI 32) hx hb dL_law_739 (by decide) ?_
  refine lv_lshl (v := j_shl ((xs (i + 1)).toInt64) (nI 32)) hx hb dL_law_741 rfl ?_
  refine lv_aload_n hx hb dL_law_742 rfl (lv_at hl 0 rfl) ?_
  refine lv_iload_n hx hb dL_law_743 rfl (lv_at hl 3 rfl) ?_
  refine lv_iconst (v := nI 2) hx hb dL_law_744 (by decide) ?_
  refine lv_iadd hx hb dL_law_745 ?_
  refine tp_i (y := nI (i + 2)) (nI_add _ _) ?_
  refine sc_ld (j := i + 2) hx hb hX hbl hbA hS dL_law_746 (by omega) (by omega) ?_
  refine lv_i2l (v := (xs (i + 2)).toInt64) hx hb dL_law_747 rfl ?_
  refine lv_ldc2 (v := 4294967295) hx hb hown hk21 dL_law_748 ?_
  refine lv_land hx hb dL_law_751 ?_
  refine lv_lor hx hb dL_law_752 ?_
  refine lv_aload_n hx hb dL_law_753 rfl (lv_at hl 0 rfl) ?_
  refine lv_iload_n hx hb dL_law_754 rfl (lv_at hl 3 rfl) ?_
  refine lv_iconst (v := nI 3) hx hb dL_law_755 (by decide) ?_
  refine lv_iadd hx hb dL_law_756 ?_
  refine tp_i (y := nI (i + 3)) (nI_add _ _) ?_
  refine sc_ld (j := i + 3) hx hb hX hbl hbA hS dL_law_757 (by omega) (by omega) ?_
  refine lv_i2l (v := (xs (i + 3)).toInt64) hx hb dL_law_758 rfl ?_
  refine lv_bipush (v := nI 32) hx hb dL_law_759 (by decide) ?_
  refine lv_lshl (v := j_shl ((xs (i + 3)).toInt64) (nI 32)) hx hb dL_law_761 rfl ?_
  refine lv_aload_n hx hb dL_law_762 rfl (lv_at hl 0 rfl) ?_
  refine lv_iload_n hx hb dL_law_763 rfl (lv_at hl 3 rfl) ?_
  refine lv_iconst (v := nI 4) hx hb dL_law_764 (by decide) ?_
  refine lv_iadd hx hb dL_law_765 ?_
  refine tp_i (y := nI (i + 4)) (nI_add _ _) ?_
  refine sc_ld (j := i + 4) hx hb hX hbl hbA hS dL_law_766 (by omega) (by omega) ?_
  refine lv_i2l (v := (xs (i + 4)).toInt64) hx hb dL_law_767 rfl ?_
  refine lv_ldc2 (v := 4294967295) hx hb hown hk21 dL_law_768 ?_
  refine lv_land hx hb dL_law_771 ?_
  refine lv_lor hx hb dL_law_772 ?_
  refine lv_aload_n hx hb dL_law_773 rfl (lv_at hl 0 rfl) ?_
  refine lv_iload_n hx hb dL_law_774 rfl (lv_at hl 3 rfl) ?_
  refine lv_iconst (v := nI 5) hx hb dL_law_775 (by decide) ?_
  refine lv_iadd hx hb dL_law_776 ?_
  refine tp_i (y := nI (i + 5)) (nI_add _ _) ?_
  refine sc_ld (j := i + 5) hx hb hX hbl hbA hS dL_law_777 (by omega) (by omega) ?_
  refine lv_i2l (v := (xs (i + 5)).toInt64) hx hb dL_law_778 rfl ?_
  refine lv_bipush (v := nI 32) hx hb dL_law_779 (by decide) ?_
  refine lv_lshl (v := j_shl ((xs (i + 5)).toInt64) (nI 32)) hx hb dL_law_781 rfl ?_
  refine lv_aload_n hx hb dL_law_782 rfl (lv_at hl 0 rfl) ?_
  refine lv_iload_n hx hb dL_law_783 rfl (lv_at hl 3 rfl) ?_
  refine lv_bipush (v := nI 6) hx hb dL_law_784 (by decide) ?_
  refine lv_iadd hx hb dL_law_786 ?_
  refine tp_i (y := nI (i + 6)) (nI_add _ _) ?_
  refine sc_ld (j := i + 6) hx hb hX hbl hbA hS dL_law_787 (by omega) (by omega) ?_
  refine lv_i2l (v := (xs (i + 6)).toInt64) hx hb dL_law_788 rfl ?_
  refine lv_ldc2 (v := 4294967295) hx hb hown hk21 dL_law_789 ?_
  refine lv_land hx hb dL_law_792 ?_
  refine lv_lor hx hb dL_law_793 ?_
  refine lv_aload_n hx hb dL_law_794 rfl (lv_at hl 0 rfl) ?_
  refine lv_iload_n hx hb dL_law_795 rfl (lv_at hl 3 rfl) ?_
  refine lv_bipush (v := nI 7) hx hb dL_law_796 (by decide) ?_
  refine lv_iadd hx hb dL_law_798 ?_
  refine tp_i (y := nI (i + 7)) (nI_add _ _) ?_
  refine sc_ld (j := i + 7) hx hb hX hbl hbA hS dL_law_799 (by omega) (by omega) ?_
  refine lv_i2l (v := (xs (i + 7)).toInt64) hx hb dL_law_800 rfl ?_
  refine lv_bipush (v := nI 32) hx hb dL_law_801 (by decide) ?_
  refine lv_lshl (v := j_shl ((xs (i + 7)).toInt64) (nI 32)) hx hb dL_law_803 rfl ?_
  refine lv_aload_n hx hb dL_law_804 rfl (lv_at hl 0 rfl) ?_
  refine lv_iload_n hx hb dL_law_805 rfl (lv_at hl 3 rfl) ?_
  refine lv_bipush (v := nI 8) hx hb dL_law_806 (by decide) ?_
  refine lv_iadd hx hb dL_law_808 ?_
  refine tp_i (y := nI (i + 8)) (nI_add _ _) ?_
  refine sc_ld (j := i + 8) hx hb hX hbl hbA hS dL_law_809 (by omega) (by omega) ?_
  refine lv_i2l (v := (xs (i + 8)).toInt64) hx hb dL_law_810 rfl ?_
  refine lv_ldc2 (v := 4294967295) hx hb hown hk21 dL_law_811 ?_
  refine lv_land hx hb dL_law_814 ?_
  refine lv_lor hx hb dL_law_815 ?_
  refine lw_kM (va_runV (As := [.long ((j_shl ((xs (i + 1)).toInt64) (nI 32)) ||| (((xs (i + 2)).toInt64) &&& 4294967295)), .long ((j_shl ((xs (i + 3)).toInt64) (nI 32)) ||| (((xs (i + 4)).toInt64) &&& 4294967295)), .long ((j_shl ((xs (i + 5)).toInt64) (nI 32)) ||| (((xs (i + 6)).toInt64) &&& 4294967295)), .long ((j_shl ((xs (i + 7)).toInt64) (nI 32)) ||| (((xs (i + 8)).toInt64) &&& 4294967295))]) (rest := [.long r]) ⟨hx, hb, hml, hown, hts⟩ (qM H.size) (cwV 4 hts gLw_M_compact_91 rfl rfl rfl (by decide +kernel) ⟨Nat.le_of_ble_eq_true rfl, Nat.le_of_ble_eq_true rfl⟩) (rw_preV (hP.sub [15, 16, 17, 18, 19, 20, 21, 22, 23, 24, 25] rfl) hK (hD.sub [15, 16, 17, 18, 19, 20, 21, 22, 23, 24, 25] (by decide) rfl) (va_recv hK hP (ci := 3) (q0 := 15) rfl rfl)) rfl rfl hl.1 rfl (lv_room (Nat.le_of_ble_eq_true rfl)) dL_law_816 hcs) hP hD hS hA (fun H locs Sm α β γ Rk2 hM hP hD hS => ?_)
  exact lc_eq (tgt := 825) hx hb dL_law_819 dL_law_820 (by decide) (fun _ => kk _ _ ⟨n', tp', P', Hh', Ch, Tm', Bt', Zb', val', Wk, Rk, pr, kn, fd, fr, fq, Sm, α, β, γ, Rk2, hI', hC, hM, hP, hD, hS⟩ ls hl) (fun c9 => absurd rfl c9)
