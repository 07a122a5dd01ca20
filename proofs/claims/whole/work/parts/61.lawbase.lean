/-! THE LAW: its own method 'cell', loads of the script, the two calls of a case -/
theorem c_cell (l : Launch) (b L : Nat) (xs : Nat → Int32) (k : Nat) (hL : L ≤ 4610) (hk : k < 5000) : Met l yL_cell wL_cell ({ frames := 0, cells := 0, slots := 0, locals := 0 }) (va_Pc [.ref b, .int (nI k)] (fun U => va_X b L xs U U.heap)) (ro_Q (some (.int (if k < L then xs k else 0)))) 0 0 (fun _ => False) := by
  refine Met.ofW (cc := cL_cell) (maxL := 2) (ret := some .int) (by decide) rfl ?_
  intro p e s m args below meth c s₁ B hml hv
  obtain ⟨rfl, hX⟩ := hv
  have hx := B.exec
  have hb := B.bytes
  have hr := B.returns
  have hlocks := B.notSynchronized
  have hl := lv_entry ([.ref b, .int (nI k)]) (n := 2) (Nat.le_of_ble_eq_true rfl)
  rw [lg_entry_eq]
  generalize (lg_sl ([.ref b, .int (nI k)]) ++ List.replicate (2 - (lg_sl ([.ref b, .int (nI k)])).length) Slot.unset).toArray = ls at hl ⊢
  have hl : lv_has ls 2 [(0, .ref b), (1, .int (nI k))] := hl
  have hbl : b < s.heap.size := by obtain ⟨scr, h1, -⟩ := hX; exact (Array.getElem?_eq_some_iff.mp h1).1
  have hS : va_S (fun _ => False) s.heap s.heap [] := va_S.rf
  refine lv_iload_n hx hb dL_cell_0 rfl (lv_at hl 1 rfl) ?_
  refine lv_aload_n hx hb dL_cell_1 rfl (lv_at hl 0 rfl) ?_
  refine va_slen hx hb hX hbl (fun h => h) hS dL_cell_2 ?_
  refine lv_icmp_ge (tgt := 12) hx hb dL_cell_3 (by decide) (fun c_3 => ?_) (fun c_3 => ?_)
  · have h9 : L ≤ k := n_le (show nI L ≤ nI k from c_3) (by omega) (by omega)
    refine lv_iconst (v := 0) hx hb dL_cell_12 (by decide) ?_
    exact ro_iret rfl hx hb hr hlocks dL_cell_13 (by rw [if_neg (by omega)])
  · have h9 : k < L := n_nle (show ¬ nI L ≤ nI k from c_3) (by omega) (by omega)
    refine lv_aload_n hx hb dL_cell_6 rfl (lv_at hl 0 rfl) ?_
    refine lv_iload_n hx hb dL_cell_7 rfl (lv_at hl 1 rfl) ?_
    refine va_sld hx hb hX hbl (fun h => h) hS (vp_in_nI h9 (by omega)) dL_cell_8 ?_
    rw [nI_clamp (by omega)]
    refine lv_goto (tgt := 13) hx hb dL_cell_9 (by decide) ?_
    exact ro_iret rfl hx hb hr hlocks dL_cell_13 (by rw [if_pos h9])
theorem cell_pre {s : State} {H : Heap} {b L : Nat} {xs : Nat → Int32} {av : List Value} (hX : va_X b L xs s H) : PreS s H (va_Pc av (fun U => va_X b L xs U U.heap)) av :=
  ⟨fun a U g mk q => ⟨q.1, va_X.moved (u := U) (U := U.calling g mk a) (Vm.Alike.refl U.vm) q.2⟩, fun U hU hW => ⟨rfl, by show va_X b L xs U U.heap; rw [hU]; exact va_X.moved hW.alike hX⟩⟩
section LAWB
variable {p : Program} {l : Launch} {e : Env} {R : Room} {s : State} {m : MethodId} {args : Array Value} {below : List Frame} {meth : Method} {c : Code} {H : Heap} {locs : List Loc} {cells slots : Nat} {Q : State → Prop}
variable {cc : ByteArray} {pc : Nat} {ls : Array Slot} {rest st0 : List Value} {D : va_G} {A : Nat → Prop} {H0 : Heap}
theorem sc_ld {b L j : Nat} {xs : Nat → Int32} (hexec : p.tables.exec = Jvm.exec) (hb : c.code = cc) (hX : va_X b L xs s H0) (hbl : b < H0.size) (hbA : ¬ A b) (hS : va_S A H0 H locs) (hdg : decode cc pc = .ok (.iaload, 1)) (hj : j < L) (hL : L < 2 ^ 31)
    (kk : W p l e R s m args below meth c H locs cells slots Q (F0 m (pc + 1) ls (.int (xs j) :: rest))) : W p l e R s m args below meth c H locs cells slots Q (F0 m pc ls (.int (nI j) :: .ref b :: rest)) := by
  refine va_sld hexec hb hX hbl hbA hS (vp_in_nI hj hL) hdg ?_
  rw [nI_clamp (Nat.lt_trans hj hL)]; exact kk

theorem lw_kT {cI cJ cZ : ClassId} {ad : Nat → Nat} {rm n tp : Nat} {P Hh Ch : Nat → Nat} {Tm Bt : Nat → Int64} {Zb : Nat → Nat} {Wk Rk pr : Nat → Int64} {kn : Int64} {fd fr fq : Nat → Int64} {ae : Nat → Nat} {rm2 n2 : Nat} {P2 Hh2 : Nat → Nat} {Tm2 Bt2 : Nat → Int64} {Zb2 Sm α β γ : Nat → Nat} {Rk2 : Nat → Int64} {r : Value} {n' tp' : Nat} {P' Hh' : Nat → Nat} {Tm' Bt' : Nat → Int64} {Zb' val' : Nat → Nat} {av : Array Value}
    (hr : va_Run p l e R s m args below meth c H locs cells slots 0 0 (F0 m pc ls st0) rest (rw_Q D vwCl (CPost cI cJ cZ ad rm r n' tp' P' Hh' Tm' Bt' Zb' val') (va_A (TDW cI cJ cZ ad rm n tp P Hh Ch Tm Bt Zb Wk Rk pr kn fd fr fq) H.size) av) (va_A (TDW cI cJ cZ ad rm n tp P Hh Ch Tm Bt Zb Wk Rk pr kn fd fr fq) H.size))
    (hP : va_P D vwCl ((TDW cI cJ cZ ad rm n tp P Hh Ch Tm Bt Zb Wk Rk pr kn fd fr fq) ++ (MDW cI cJ cZ ae rm2 n2 P2 Hh2 Tm2 Bt2 Zb2 Sm α β γ Rk2)) H) (hD : va_D A ((TDW cI cJ cZ ad rm n tp P Hh Ch Tm Bt Zb Wk Rk pr kn fd fr fq) ++ (MDW cI cJ cZ ae rm2 n2 P2 Hh2 Tm2 Bt2 Zb2 Sm α β γ Rk2))) (hS : va_S A H0 H locs) (hA : ∀ q : Nat, H0.size ≤ q → A q)
    (kk : ∀ (H : Heap) (locs : List Loc) (Ch' : Nat → Nat) (Wk' Rk' pr' : Nat → Int64) (kn' : Int64) (fd' fr' fq' : Nat → Int64), InvC rm n' P' Ch' Wk' pr' kn' fd' fq' val' → va_P D vwCl ((TDW cI cJ cZ ad rm n' tp' P' Hh' Ch' Tm' Bt' Zb' Wk' Rk' pr' kn' fd' fr' fq') ++ (MDW cI cJ cZ ae rm2 n2 P2 Hh2 Tm2 Bt2 Zb2 Sm α β γ Rk2)) H → va_D A ((TDW cI cJ cZ ad rm n' tp' P' Hh' Ch' Tm' Bt' Zb' Wk' Rk' pr' kn' fd' fr' fq') ++ (MDW cI cJ cZ ae rm2 n2 P2 Hh2 Tm2 Bt2 Zb2 Sm α β γ Rk2)) → va_S A H0 H locs → W p l e R s m args below meth c H locs cells slots Q (F0 m (pc + 3) ls (r :: rest))) : W p l e R s m args below meth c H locs cells slots Q (F0 m pc ls st0) := by
  refine rw_k (wc := (TDW cI cJ cZ ad rm n tp P Hh Ch Tm Bt Zb Wk Rk pr kn fd fr fq)) (wr := (MDW cI cJ cZ ae rm2 n2 P2 Hh2 Tm2 Bt2 Zb2 Sm α β γ Rk2)) hr hP hD hS hA [0, 1, 2, 3, 4, 5, 6, 7, 8, 9, 10, 11, 12, 13, 14] [15, 16, 17, 18, 19, 20, 21, 22, 23, 24, 25] rfl rfl (by decide) (by decide) (fun v9 w9 H locs hp9 hP hD hS => ?_)
  obtain ⟨rfl, Ch', Wk', Rk', pr', kn', fd', fr', fq', hC', rfl⟩ := hp9
  exact kk H locs Ch' Wk' Rk' pr' kn' fd' fr' fq' hC' (hP.sub [11, 12, 13, 14, 15, 16, 17, 18, 19, 20, 21, 22, 23, 24, 25, 0, 1, 2, 3, 4, 5, 6, 7, 8, 9, 10] rfl) (hD.sub [11, 12, 13, 14, 15, 16, 17, 18, 19, 20, 21, 22, 23, 24, 25, 0, 1, 2, 3, 4, 5, 6, 7, 8, 9, 10] (by decide) rfl) hS
theorem lw_kM {cI cJ cZ : ClassId} {ad : Nat → Nat} {rm n tp : Nat} {P Hh Ch : Nat → Nat} {Tm Bt : Nat → Int64} {Zb : Nat → Nat} {Wk Rk pr : Nat → Int64} {kn : Int64} {fd fr fq : Nat → Int64} {ae : Nat → Nat} {rm2 n2 : Nat} {P2 Hh2 : Nat → Nat} {Tm2 Bt2 : Nat → Int64} {Zb2 Sm α β γ : Nat → Nat} {Rk2 : Nat → Int64} {r : Value} {n' : Nat} {P' Hh' : Nat → Nat} {Tm' Bt' : Nat → Int64} {Zb' val' : Nat → Nat} {av : Array Value}
    (hr : va_Run p l e R s m args below meth c H locs cells slots 0 0 (F0 m pc ls st0) rest (rw_Q D vwCl (MPost cI cJ cZ ae rm2 r n' P' Hh' Tm' Bt' Zb' val') (va_A (MDW cI cJ cZ ae rm2 n2 P2 Hh2 Tm2 Bt2 Zb2 Sm α β γ Rk2) H.size) av) (va_A (MDW cI cJ cZ ae rm2 n2 P2 Hh2 Tm2 Bt2 Zb2 Sm α β γ Rk2) H.size))
    (hP : va_P D vwCl ((TDW cI cJ cZ ad rm n tp P Hh Ch Tm Bt Zb Wk Rk pr kn fd fr fq) ++ (MDW cI cJ cZ ae rm2 n2 P2 Hh2 Tm2 Bt2 Zb2 Sm α β γ Rk2)) H) (hD : va_D A ((TDW cI cJ cZ ad rm n tp P Hh Ch Tm Bt Zb Wk Rk pr kn fd fr fq) ++ (MDW cI cJ cZ ae rm2 n2 P2 Hh2 Tm2 Bt2 Zb2 Sm α β γ Rk2))) (hS : va_S A H0 H locs) (hA : ∀ q : Nat, H0.size ≤ q → A q)
    (kk : ∀ (H : Heap) (locs : List Loc) (Sm' α' β' γ' : Nat → Nat) (Rk2' : Nat → Int64), InvM n' Sm' α' β' γ' val' → va_P D vwCl ((TDW cI cJ cZ ad rm n tp P Hh Ch Tm Bt Zb Wk Rk pr kn fd fr fq) ++ (MDW cI cJ cZ ae rm2 n' P' Hh' Tm' Bt' Zb' Sm' α' β' γ' Rk2')) H → va_D A ((TDW cI cJ cZ ad rm n tp P Hh Ch Tm Bt Zb Wk Rk pr kn fd fr fq) ++ (MDW cI cJ cZ ae rm2 n' P' Hh' Tm' Bt' Zb' Sm' α' β' γ' Rk2')) → va_S A H0 H locs → W p l e R s m args below meth c H locs cells slots Q (F0 m (pc + 3) ls (r :: rest))) : W p l e R s m args below meth c H locs cells slots Q (F0 m pc ls st0) := by
  refine rw_k (wc := (MDW cI cJ cZ ae rm2 n2 P2 Hh2 Tm2 Bt2 Zb2 Sm α β γ Rk2)) (wr := (TDW cI cJ cZ ad rm n tp P Hh Ch Tm Bt Zb Wk Rk pr kn fd fr fq)) hr hP hD hS hA [15, 16, 17, 18, 19, 20, 21, 22, 23, 24, 25] [0, 1, 2, 3, 4, 5, 6, 7, 8, 9, 10, 11, 12, 13, 14] rfl rfl (by decide) (by decide) (fun v9 w9 H locs hp9 hP hD hS => ?_)
  obtain ⟨rfl, Sm', α', β', γ', Rk2', hM', rfl⟩ := hp9
  exact kk H locs Sm' α' β' γ' Rk2' hM' hP hD hS
end LAWB
theorem lw_guard {i L : Nat} (hL : L ≤ 4610) (hi : i < 5000) (h : ¬ nI L - nI 9 < nI i) : i + 9 ≤ L := by
  rcases Nat.lt_or_ge L 9 with g | g
  · exfalso
    apply h
    rw [Int32.lt_iff_toInt_lt, nI_toInt (by omega)]
    rcases (show L = 0 ∨ L = 1 ∨ L = 2 ∨ L = 3 ∨ L = 4 ∨ L = 5 ∨ L = 6 ∨ L = 7 ∨ L = 8 by omega) with rfl | rfl | rfl | rfl | rfl | rfl | rfl | rfl | rfl
    · rw [show (nI 0 - nI 9).toInt = -9 by decide]; omega
    · rw [show (nI 1 - nI 9).toInt = -8 by decide]; omega
    · rw [show (nI 2 - nI 9).toInt = -7 by decide]; omega
    · rw [show (nI 3 - nI 9).toInt = -6 by decide]; omega
    · rw [show (nI 4 - nI 9).toInt = -5 by decide]; omega
    · rw [show (nI 5 - nI 9).toInt = -4 by decide]; omega
    · rw [show (nI 6 - nI 9).toInt = -3 by decide]; omega
    · rw [show (nI 7 - nI 9).toInt = -2 by decide]; omega
    · rw [show (nI 8 - nI 9).toInt = -1 by decide]; omega
  · rw [pk_sub g] at h
    have := n_nlt h (by omega) (by omega)
    omega
theorem and_15 (x : Int32) : ∃ k : Nat, k < 16 ∧ x &&& nI 15 = nI k := by
  refine ⟨(x &&& nI 15).toUInt32.toNat, ?_, ?_⟩
  · rw [Int32.toUInt32_and, UInt32.toNat_and]
    exact Nat.lt_of_le_of_lt Nat.and_le_right (by decide)
  · show _ = Int32.ofNat _
    apply Int32.toBitVec_inj.mp
    show (x &&& nI 15).toBitVec = BitVec.ofNat 32 (x &&& nI 15).toBitVec.toNat
    rw [BitVec.ofNat_toNat, BitVec.setWidth_eq]
/-- the state of both between two calls -/
def LwI (D : va_G) (cI cJ cZ : ClassId) (s : State) (rm : Nat) (ad ae : Nat → Nat) (H : Heap) (locs : List Loc) : Prop :=
  ∃ (n tp : Nat) (P Hh Ch : Nat → Nat) (Tm Bt : Nat → Int64) (Zb val : Nat → Nat) (Wk Rk pr : Nat → Int64) (kn : Int64) (fd fr fq : Nat → Int64) (Sm α β γ : Nat → Nat) (Rk2 : Nat → Int64), Inv rm n tp P Hh Bt Zb val ∧ InvC rm n P Ch Wk pr kn fd fq val ∧ InvM n Sm α β γ val ∧ va_P D vwCl ((TDW cI cJ cZ ad rm n tp P Hh Ch Tm Bt Zb Wk Rk pr kn fd fr fq) ++ (MDW cI cJ cZ ae rm n P Hh Tm Bt Zb Sm α β γ Rk2)) H ∧ va_D (fun q : Nat => s.heap.size ≤ q) ((TDW cI cJ cZ ad rm n tp P Hh Ch Tm Bt Zb Wk Rk pr kn fd fr fq) ++ (MDW cI cJ cZ ae rm n P Hh Tm Bt Zb Sm α β γ Rk2)) ∧ va_S (fun q : Nat => s.heap.size ≤ q) s.heap H locs
