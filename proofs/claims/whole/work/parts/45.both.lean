/-! WORLDS of both, whole -/
abbrev TDW (cI cJ cZ : ClassId) (ad : Nat → Nat) (rm n bs : Nat) (P Hh Ch : Nat → Nat) (Tm Bt : Nat → Int64) (Zb : Nat → Nat) (Wk Rk pr : Nat → Int64) (kn : Int64) (fd fr fq : Nat → Int64) : va_W := [(ad 0, .inr (2, [.int (nI rm), .int (nI n), .int (nI bs), .ref (ad 1), .ref (ad 2), .ref (ad 3), .ref (ad 4), .ref (ad 5), .ref (ad 6), .ref (ad 7), .ref (ad 8), .ref (ad 9), .ref (ad 11)])), (ad 1, .inl (cI, rm, .inl (pF P))), (ad 2, .inl (cI, rm, .inl (nF Hh))), (ad 3, .inl (cI, rm, .inl (nF Ch))), (ad 4, .inl (cJ, rm, .inr (.inl Tm))), (ad 5, .inl (cJ, rm, .inr (.inl Bt))), (ad 6, .inl (cZ, rm, .inl (nF Zb))), (ad 7, .inl (cJ, rm * 8, .inr (.inl Wk))), (ad 8, .inl (cJ, 11, .inr (.inl Rk))), (ad 9, .inr (0, [.ref (ad 10)])), (ad 10, .inl (cJ, 9, .inr (.inl pr))), (ad 11, .inr (1, [.ref (ad 12), .ref (ad 13), .ref (ad 14), .long kn])), (ad 12, .inl (cJ, 8, .inr (.inl fd))), (ad 13, .inl (cJ, 8, .inr (.inl fr))), (ad 14, .inl (cJ, 8, .inr (.inl fq)))]
abbrev MDW (cI cJ cZ : ClassId) (ae : Nat → Nat) (rm n : Nat) (P Hh : Nat → Nat) (Tm Bt : Nat → Int64) (Zb Sm α β γ : Nat → Nat) (Rk2 : Nat → Int64) : va_W := [(ae 0, .inr (3, [.int (nI rm), .int (nI n), .ref (ae 1), .ref (ae 2), .ref (ae 3), .ref (ae 4), .ref (ae 5), .ref (ae 6), .ref (ae 7), .ref (ae 8), .ref (ae 9), .ref (ae 10)])), (ae 1, .inl (cI, 300, .inl (pF P))), (ae 2, .inl (cI, 300, .inl (nF Hh))), (ae 3, .inl (cJ, 300, .inr (.inl Tm))), (ae 4, .inl (cJ, 300, .inr (.inl Bt))), (ae 5, .inl (cZ, 300, .inl (nF Zb))), (ae 6, .inl (cI, 12000, .inl (nF Sm))), (ae 7, .inl (cI, 40, .inl (nF α))), (ae 8, .inl (cI, 40, .inl (nF β))), (ae 9, .inl (cI, 40, .inl (nF γ))), (ae 10, .inl (cJ, 11, .inr (.inl Rk2)))]
abbrev CPost (cI cJ cZ : ClassId) (ad : Nat → Nat) (rm : Nat) (r : Value) (n tp : Nat) (P Hh : Nat → Nat) (Tm Bt : Nat → Int64) (Zb val : Nat → Nat) : Option Value → va_W → Prop := fun v9 w9 => v9 = some r ∧ ∃ (Ch : Nat → Nat) (Wk Rk pr : Nat → Int64) (kn : Int64) (fd fr fq : Nat → Int64), InvC rm n P Ch Wk pr kn fd fq val ∧ w9 = TDW cI cJ cZ ad rm n tp P Hh Ch Tm Bt Zb Wk Rk pr kn fd fr fq
abbrev MPost (cI cJ cZ : ClassId) (ae : Nat → Nat) (rm : Nat) (r : Value) (n : Nat) (P Hh : Nat → Nat) (Tm Bt : Nat → Int64) (Zb val : Nat → Nat) : Option Value → va_W → Prop := fun v9 w9 => v9 = some r ∧ ∃ (Sm α β γ : Nat → Nat) (Rk2 : Nat → Int64), InvM n Sm α β γ val ∧ w9 = MDW cI cJ cZ ae rm n P Hh Tm Bt Zb Sm α β γ Rk2
theorem cS {l : Launch} {y : MethodName} {ws0 : List Cond} {rmm : Room} {D : va_G} {cI cJ cZ : ClassId} {av : List Value} {wc : va_W} {r : Value} {ad : Nat → Nat} {rm n tp : Nat} {P Hh Ch : Nat → Nat} {Tm Bt : Nat → Int64} {Zb val : Nat → Nat} {Wk Rk pr : Nat → Int64} {kn : Int64} {fd fr fq : Nat → Int64}
    (h : ro_C l y ws0 rmm D vwCl (gT cI cJ cZ) av wc (some r)) (isC : List Nat) (hsub : isC.filterMap (fun i => (TDW cI cJ cZ ad rm n tp P Hh Ch Tm Bt Zb Wk Rk pr kn fd fr fq)[i]?) = wc) (hC : InvC rm n P Ch Wk pr kn fd fq val) :
    rw_C l y ws0 rmm D vwCl (gT cI cJ cZ) av (TDW cI cJ cZ ad rm n tp P Hh Ch Tm Bt Zb Wk Rk pr kn fd fr fq) (CPost cI cJ cZ ad rm r n tp P Hh Tm Bt Zb val) 0 0 :=
  rw_mono (rw_of_ro (ro_lift h isC hsub)) (fun v w q => ⟨q.1, Ch, Wk, Rk, pr, kn, fd, fr, fq, hC, q.2⟩)
theorem mS {l : Launch} {y : MethodName} {ws0 : List Cond} {rmm : Room} {D : va_G} {cI cJ cZ : ClassId} {av : List Value} {wc : va_W} {r : Value} {ae : Nat → Nat} {rm n : Nat} {P Hh : Nat → Nat} {Tm Bt : Nat → Int64} {Zb Sm α β γ val : Nat → Nat} {Rk2 : Nat → Int64}
    (h : ro_C l y ws0 rmm D vwCl (gT cI cJ cZ) av wc (some r)) (isC : List Nat) (hsub : isC.filterMap (fun i => (MDW cI cJ cZ ae rm n P Hh Tm Bt Zb Sm α β γ Rk2)[i]?) = wc) (hM : InvM n Sm α β γ val) :
    rw_C l y ws0 rmm D vwCl (gT cI cJ cZ) av (MDW cI cJ cZ ae rm n P Hh Tm Bt Zb Sm α β γ Rk2) (MPost cI cJ cZ ae rm r n P Hh Tm Bt Zb val) 0 0 :=
  rw_mono (rw_of_ro (ro_lift h isC hsub)) (fun v w q => ⟨q.1, Sm, α, β, γ, Rk2, hM, q.2⟩)
/-- a call of both: the same answer, the same state behind it -/
def Both (l : Launch) (D : va_G) (cI cJ cZ : ClassId) (ad ae : Nat → Nat) (rm : Nat) (mkV : Type) (inj : mkV → Value) (yT : MethodName) (wT : List Cond) (rT : Room) (yM : MethodName) (wM : List Cond) (rM : Room) (av : List Value) (WT WM : va_W) : Prop :=
  ∃ (r : mkV) (n tp : Nat) (P Hh : Nat → Nat) (Tm Bt : Nat → Int64) (Zb val : Nat → Nat), Inv rm n tp P Hh Bt Zb val ∧ rw_C l yT wT rT D vwCl (gT cI cJ cZ) (.ref (ad 0) :: av) WT (CPost cI cJ cZ ad rm (inj r) n tp P Hh Tm Bt Zb val) 0 0 ∧ rw_C l yM wM rM D vwCl (gT cI cJ cZ) (.ref (ae 0) :: av) WM (MPost cI cJ cZ ae rm (inj r) n P Hh Tm Bt Zb val) 0 0
theorem blk (x : Int32) {n : Nat} (hn : n ≤ 300) : (∃ j : Nat, j < n ∧ x = nI j) ∨ ¬ (0 ≤ x ∧ x < nI n) := by
  rcases pk_ix x (n := n) (by omega) with h | h | ⟨j, hj, e⟩
  · right; intro q; exact absurd h (Int32.not_lt.mpr q.1)
  · right; intro q; exact absurd q.2 (Int32.not_lt.mpr h)
  · exact Or.inl ⟨j, hj, e⟩

set_option maxRecDepth 100000 in
set_option maxHeartbeats 4000000 in
theorem b_tip (l : Launch) (D : va_G) (cI cJ cZ : ClassId) (ad ae : Nat → Nat) {rm n tp : Nat} {P Hh Ch : Nat → Nat} {Tm Bt : Nat → Int64} {Zb val : Nat → Nat} {Wk Rk pr : Nat → Int64} {kn : Int64} {fd fr fq : Nat → Int64} {Sm α β γ : Nat → Nat} {Rk2 : Nat → Int64} (hI : Inv rm n tp P Hh Bt Zb val) (hC : InvC rm n P Ch Wk pr kn fd fq val) (hM : InvM n Sm α β γ val)  : Both l D cI cJ cZ ad ae rm Int32 Value.int yT_tip wT_tip rm_c_tip yM_tip wM_tip rm_k_tip [] (TDW cI cJ cZ ad rm n tp P Hh Ch Tm Bt Zb Wk Rk pr kn fd fr fq) (MDW cI cJ cZ ae rm n P Hh Tm Bt Zb Sm α β γ Rk2) := by
  obtain ⟨⟨h1, h2, h3, h4⟩, hpar, hH0, hHs, hHb, hz2, hz0, hzn, hcl, hB, hV, hT⟩ := id hI
  obtain ⟨m1, m2, m3, m4, m5⟩ := id hM
  exact ⟨nI tp, n, tp, P, Hh, Tm, Bt, Zb, val, hI, (cS (c_tip l D cI cJ cZ (ad 0) rm n tp (ad 1) (ad 2) (ad 3) (ad 4) (ad 5) (ad 6) (ad 7) (ad 8) (ad 9) (ad 11)) [0] rfl hC), (by have e := tip_M hI hM; have q := (mS (k_tip l D cI cJ cZ (ae 0) rm n (ae 1) (ae 2) (ae 3) (ae 4) (ae 5) (ae 6) (ae 7) (ae 8) (ae 9) (ae 10) Zb Sm (by omega) (by omega) hz2 m1) [0, 5, 6] rfl hM); rw [e] at q; exact q)⟩

set_option maxRecDepth 100000 in
set_option maxHeartbeats 4000000 in
theorem b_size (l : Launch) (D : va_G) (cI cJ cZ : ClassId) (ad ae : Nat → Nat) {rm n tp : Nat} {P Hh Ch : Nat → Nat} {Tm Bt : Nat → Int64} {Zb val : Nat → Nat} {Wk Rk pr : Nat → Int64} {kn : Int64} {fd fr fq : Nat → Int64} {Sm α β γ : Nat → Nat} {Rk2 : Nat → Int64} (hI : Inv rm n tp P Hh Bt Zb val) (hC : InvC rm n P Ch Wk pr kn fd fq val) (hM : InvM n Sm α β γ val)  : Both l D cI cJ cZ ad ae rm Int32 Value.int yT_size wT_size rm_c_size yM_size wM_size rm_k_size [] (TDW cI cJ cZ ad rm n tp P Hh Ch Tm Bt Zb Wk Rk pr kn fd fr fq) (MDW cI cJ cZ ae rm n P Hh Tm Bt Zb Sm α β γ Rk2) := by
  obtain ⟨⟨h1, h2, h3, h4⟩, hpar, hH0, hHs, hHb, hz2, hz0, hzn, hcl, hB, hV, hT⟩ := id hI
  obtain ⟨m1, m2, m3, m4, m5⟩ := id hM
  exact ⟨nI n, n, tp, P, Hh, Tm, Bt, Zb, val, hI, (cS (c_size l D cI cJ cZ (ad 0) rm n tp (ad 1) (ad 2) (ad 3) (ad 4) (ad 5) (ad 6) (ad 7) (ad 8) (ad 9) (ad 11)) [0] rfl hC), (mS (k_size l D cI cJ cZ (ae 0) rm n (ae 1) (ae 2) (ae 3) (ae 4) (ae 5) (ae 6) (ae 7) (ae 8) (ae 9) (ae 10)) [0] rfl hM)⟩

set_option maxRecDepth 100000 in
set_option maxHeartbeats 4000000 in
theorem b_compare (l : Launch) (D : va_G) (cI cJ cZ : ClassId) (ad ae : Nat → Nat) {rm n tp : Nat} {P Hh Ch : Nat → Nat} {Tm Bt : Nat → Int64} {Zb val : Nat → Nat} {Wk Rk pr : Nat → Int64} {kn : Int64} {fd fr fq : Nat → Int64} {Sm α β γ : Nat → Nat} {Rk2 : Nat → Int64} (hI : Inv rm n tp P Hh Bt Zb val) (hC : InvC rm n P Ch Wk pr kn fd fq val) (hM : InvM n Sm α β γ val) (x y : Int32) : Both l D cI cJ cZ ad ae rm Int32 Value.int yT_compare wT_compare rm_c_compare_ok yM_compare wM_compare rm_k_compare [.int x, .int y] (TDW cI cJ cZ ad rm n tp P Hh Ch Tm Bt Zb Wk Rk pr kn fd fr fq) (MDW cI cJ cZ ae rm n P Hh Tm Bt Zb Sm α β γ Rk2) := by
  obtain ⟨⟨h1, h2, h3, h4⟩, hpar, hH0, hHs, hHb, hz2, hz0, hzn, hcl, hB, hV, hT⟩ := id hI
  obtain ⟨m1, m2, m3, m4, m5⟩ := id hM
  obtain ⟨-, -, ⟨w, lw, hw⟩, -⟩ := id hC
  rcases blk x (n := n) (by omega) with ⟨j, hj, rfl⟩ | hx
  · rcases blk y (n := n) (by omega) with ⟨k, hk, rfl⟩ | hy
    · have e1 := cmp_C lw (n := n) (by omega) hw hj hk
      have e2 := cmp_M m1 m5 hj hk
      have q1 := (cS (c_compare_ok l D cI cJ cZ (ad 0) rm n tp (ad 1) (ad 2) (ad 3) (ad 4) (ad 5) (ad 6) (ad 7) (ad 8) (ad 9) (ad 11) Wk j k (by omega) (by omega) hj hk) [0, 7] rfl hC)
      have q2 := (mS (k_compare l D cI cJ cZ (ae 0) rm n (ae 1) (ae 2) (ae 3) (ae 4) (ae 5) (ae 6) (ae 7) (ae 8) (ae 9) (ae 10) Sm j k (by omega) hj hk m1) [0, 6] rfl hM)
      rw [e1] at q1
      rw [e2] at q2
      exact ⟨cmpOf (val j) (val k), n, tp, P, Hh, Tm, Bt, Zb, val, hI, q1, q2⟩
    · exact ⟨(-2), n, tp, P, Hh, Tm, Bt, Zb, val, hI, (cS (c_compare_nob l D cI cJ cZ (ad 0) rm n tp (ad 1) (ad 2) (ad 3) (ad 4) (ad 5) (ad 6) (ad 7) (ad 8) (ad 9) (ad 11) j y (by omega) hj hy) [0] rfl hC), (mS (k_compare_nob l D cI cJ cZ (ae 0) rm n (ae 1) (ae 2) (ae 3) (ae 4) (ae 5) (ae 6) (ae 7) (ae 8) (ae 9) (ae 10) j y (by omega) hj hy) [0] rfl hM)⟩
  · exact ⟨(-2), n, tp, P, Hh, Tm, Bt, Zb, val, hI, (cS (c_compare_noa l D cI cJ cZ (ad 0) rm n tp (ad 1) (ad 2) (ad 3) (ad 4) (ad 5) (ad 6) (ad 7) (ad 8) (ad 9) (ad 11) x y hx) [0] rfl hC), (mS (k_compare_noa l D cI cJ cZ (ae 0) rm n (ae 1) (ae 2) (ae 3) (ae 4) (ae 5) (ae 6) (ae 7) (ae 8) (ae 9) (ae 10) x y hx) [0] rfl hM)⟩

set_option maxRecDepth 100000 in
set_option maxHeartbeats 4000000 in
theorem b_work (l : Launch) (D : va_G) (cI cJ cZ : ClassId) (ad ae : Nat → Nat) {rm n tp : Nat} {P Hh Ch : Nat → Nat} {Tm Bt : Nat → Int64} {Zb val : Nat → Nat} {Wk Rk pr : Nat → Int64} {kn : Int64} {fd fr fq : Nat → Int64} {Sm α β γ : Nat → Nat} {Rk2 : Nat → Int64} (hI : Inv rm n tp P Hh Bt Zb val) (hC : InvC rm n P Ch Wk pr kn fd fq val) (hM : InvM n Sm α β γ val) (x k : Int32) : Both l D cI cJ cZ ad ae rm Int64 Value.long yT_work wT_work rm_c_work_ok yM_work wM_work rm_k_work [.int x, .int k] (TDW cI cJ cZ ad rm n tp P Hh Ch Tm Bt Zb Wk Rk pr kn fd fr fq) (MDW cI cJ cZ ae rm n P Hh Tm Bt Zb Sm α β γ Rk2) := by
  obtain ⟨⟨h1, h2, h3, h4⟩, hpar, hH0, hHs, hHb, hz2, hz0, hzn, hcl, hB, hV, hT⟩ := id hI
  obtain ⟨m1, m2, m3, m4, m5⟩ := id hM
  obtain ⟨-, -, ⟨w, lw, hw⟩, -⟩ := id hC
  rcases blk x (n := n) (by omega) with ⟨j, hj, rfl⟩ | hx
  · rcases pk_ix k (n := 4) (by omega) with h | h | ⟨q, hq, rfl⟩
    · exact ⟨0, n, tp, P, Hh, Tm, Bt, Zb, val, hI, (cS (c_work_nok l D cI cJ cZ (ad 0) rm n tp (ad 1) (ad 2) (ad 3) (ad 4) (ad 5) (ad 6) (ad 7) (ad 8) (ad 9) (ad 11) j k (by omega) hj (fun z => absurd z.1 (Int32.not_le.mpr h))) [0] rfl hC), (mS (k_work_nok l D cI cJ cZ (ae 0) rm n (ae 1) (ae 2) (ae 3) (ae 4) (ae 5) (ae 6) (ae 7) (ae 8) (ae 9) (ae 10) Sm j k (by omega) hj (fun z => absurd z.1 (Int32.not_le.mpr h))) [0, 6] rfl hM)⟩
    · exact ⟨0, n, tp, P, Hh, Tm, Bt, Zb, val, hI, (cS (c_work_nok l D cI cJ cZ (ad 0) rm n tp (ad 1) (ad 2) (ad 3) (ad 4) (ad 5) (ad 6) (ad 7) (ad 8) (ad 9) (ad 11) j k (by omega) hj (fun z => absurd z.2 (Int32.not_lt.mpr h))) [0] rfl hC), (mS (k_work_nok l D cI cJ cZ (ae 0) rm n (ae 1) (ae 2) (ae 3) (ae 4) (ae 5) (ae 6) (ae 7) (ae 8) (ae 9) (ae 10) Sm j k (by omega) hj (fun z => by have h9 := z.2; rw [Int32.le_iff_toInt_le] at h h9; rw [show (nI 3).toInt = 3 from rfl] at h9; rw [show (nI 4).toInt = 4 from rfl] at h; omega)) [0, 6] rfl hM)⟩
    · have e := work_eq lw m1 (x := j) (k := q) (by omega) hq ((hw j hj).trans (m5 j hj).symm)
      have q1 := (cS (c_work_ok l D cI cJ cZ (ad 0) rm n tp (ad 1) (ad 2) (ad 3) (ad 4) (ad 5) (ad 6) (ad 7) (ad 8) (ad 9) (ad 11) Wk j q (by omega) (by omega) hj hq) [0, 7] rfl hC)
      rw [e] at q1
      exact ⟨lN (r_lo Sm (40 * j + 8 * (3 - q)) 8 0), n, tp, P, Hh, Tm, Bt, Zb, val, hI, q1, (mS (k_work l D cI cJ cZ (ae 0) rm n (ae 1) (ae 2) (ae 3) (ae 4) (ae 5) (ae 6) (ae 7) (ae 8) (ae 9) (ae 10) Sm j q (by omega) hj hq m1) [0, 6] rfl hM)⟩
  · exact ⟨0, n, tp, P, Hh, Tm, Bt, Zb, val, hI, (cS (c_work_nob l D cI cJ cZ (ad 0) rm n tp (ad 1) (ad 2) (ad 3) (ad 4) (ad 5) (ad 6) (ad 7) (ad 8) (ad 9) (ad 11) x k hx) [0] rfl hC), (mS (k_work_nob l D cI cJ cZ (ae 0) rm n (ae 1) (ae 2) (ae 3) (ae 4) (ae 5) (ae 6) (ae 7) (ae 8) (ae 9) (ae 10) x k hx) [0] rfl hM)⟩

set_option maxRecDepth 100000 in
set_option maxHeartbeats 4000000 in
theorem b_below (l : Launch) (D : va_G) (cI cJ cZ : ClassId) (ad ae : Nat → Nat) {rm n tp : Nat} {P Hh Ch : Nat → Nat} {Tm Bt : Nat → Int64} {Zb val : Nat → Nat} {Wk Rk pr : Nat → Int64} {kn : Int64} {fd fr fq : Nat → Int64} {Sm α β γ : Nat → Nat} {Rk2 : Nat → Int64} (hI : Inv rm n tp P Hh Bt Zb val) (hC : InvC rm n P Ch Wk pr kn fd fq val) (hM : InvM n Sm α β γ val) (x h : Int32) : Both l D cI cJ cZ ad ae rm Int32 Value.int yT_below wT_below rm_c_below_ok yM_below wM_below rm_k_below [.int x, .int h] (TDW cI cJ cZ ad rm n tp P Hh Ch Tm Bt Zb Wk Rk pr kn fd fr fq) (MDW cI cJ cZ ae rm n P Hh Tm Bt Zb Sm α β γ Rk2) := by
  obtain ⟨⟨h1, h2, h3, h4⟩, hpar, hH0, hHs, hHb, hz2, hz0, hzn, hcl, hB, hV, hT⟩ := id hI
  obtain ⟨m1, m2, m3, m4, m5⟩ := id hM
  rcases blk x (n := n) (by omega) with ⟨j, hj, rfl⟩ | hx
  · have hbj := hHb j hj
    rcases Classical.em (h < 0) with g | g
    · exact ⟨(-1), n, tp, P, Hh, Tm, Bt, Zb, val, hI, (cS (c_below_noh l D cI cJ cZ (ad 0) rm n tp (ad 1) (ad 2) (ad 3) (ad 4) (ad 5) (ad 6) (ad 7) (ad 8) (ad 9) (ad 11) Hh j h (by omega) (by omega) hj (fun z => absurd z.1 (Int32.not_le.mpr g))) [0, 2] rfl hC), (mS (k_below_neg l D cI cJ cZ (ae 0) rm n (ae 1) (ae 2) (ae 3) (ae 4) (ae 5) (ae 6) (ae 7) (ae 8) (ae 9) (ae 10) j h (by omega) hj g) [0] rfl hM)⟩
    · obtain ⟨k, hk, rfl⟩ := nI_of g
      have q2 := (mS (k_below l D cI cJ cZ (ae 0) rm n (ae 1) (ae 2) (ae 3) (ae 4) (ae 5) (ae 6) (ae 7) (ae 8) (ae 9) (ae 10) P Hh j k (by omega) hj hk hpar hH0 hHs hHb) [0, 1, 2] rfl hM)
      unfold r_bel at q2
      by_cases c : k ≤ Hh j
      · rw [if_pos c] at q2
        exact ⟨nI (m_anc P (Hh j - k) j), n, tp, P, Hh, Tm, Bt, Zb, val, hI, (cS (c_below_ok l D cI cJ cZ (ad 0) rm n tp (ad 1) (ad 2) (ad 3) (ad 4) (ad 5) (ad 6) (ad 7) (ad 8) (ad 9) (ad 11) P Hh j k (by omega) (by omega) hj hbj c hpar) [0, 1, 2] rfl hC), q2⟩
      · rw [if_neg c] at q2
        exact ⟨(-1), n, tp, P, Hh, Tm, Bt, Zb, val, hI, (cS (c_below_noh l D cI cJ cZ (ad 0) rm n tp (ad 1) (ad 2) (ad 3) (ad 4) (ad 5) (ad 6) (ad 7) (ad 8) (ad 9) (ad 11) Hh j (nI k) (by omega) (by omega) hj (fun z => absurd z.2 (nI_ge (by omega) hk))) [0, 2] rfl hC), q2⟩
  · exact ⟨(-1), n, tp, P, Hh, Tm, Bt, Zb, val, hI, (cS (c_below_nob l D cI cJ cZ (ad 0) rm n tp (ad 1) (ad 2) (ad 3) (ad 4) (ad 5) (ad 6) (ad 7) (ad 8) (ad 9) (ad 11) x h hx) [0] rfl hC), (mS (k_below_nob l D cI cJ cZ (ae 0) rm n (ae 1) (ae 2) (ae 3) (ae 4) (ae 5) (ae 6) (ae 7) (ae 8) (ae 9) (ae 10) x h hx) [0] rfl hM)⟩

set_option maxRecDepth 100000 in
set_option maxHeartbeats 4000000 in
theorem b_fork (l : Launch) (D : va_G) (cI cJ cZ : ClassId) (ad ae : Nat → Nat) {rm n tp : Nat} {P Hh Ch : Nat → Nat} {Tm Bt : Nat → Int64} {Zb val : Nat → Nat} {Wk Rk pr : Nat → Int64} {kn : Int64} {fd fr fq : Nat → Int64} {Sm α β γ : Nat → Nat} {Rk2 : Nat → Int64} (hI : Inv rm n tp P Hh Bt Zb val) (hC : InvC rm n P Ch Wk pr kn fd fq val) (hM : InvM n Sm α β γ val) (x y : Int32) : Both l D cI cJ cZ ad ae rm Int32 Value.int yT_fork wT_fork rm_c_fork_ok yM_fork wM_fork rm_k_fork [.int x, .int y] (TDW cI cJ cZ ad rm n tp P Hh Ch Tm Bt Zb Wk Rk pr kn fd fr fq) (MDW cI cJ cZ ae rm n P Hh Tm Bt Zb Sm α β γ Rk2) := by
  obtain ⟨⟨h1, h2, h3, h4⟩, hpar, hH0, hHs, hHb, hz2, hz0, hzn, hcl, hB, hV, hT⟩ := id hI
  obtain ⟨m1, m2, m3, m4, m5⟩ := id hM
  rcases blk x (n := n) (by omega) with ⟨j, hj, rfl⟩ | hx
  · rcases blk y (n := n) (by omega) with ⟨k, hk, rfl⟩ | hy
    · have e := fork_eq hpar hH0 hHs (by omega) (2 * n) n j k hj hk (by omega) hj
      have q1 := (cS (c_fork_ok l D cI cJ cZ (ad 0) rm n tp (ad 1) (ad 2) (ad 3) (ad 4) (ad 5) (ad 6) (ad 7) (ad 8) (ad 9) (ad 11) P j k (by omega) (by omega) hj hk hpar) [0, 1] rfl hC)
      rw [e] at q1
      exact ⟨nI (r_fork P Hh k n j), n, tp, P, Hh, Tm, Bt, Zb, val, hI, q1, (mS (k_fork l D cI cJ cZ (ae 0) rm n (ae 1) (ae 2) (ae 3) (ae 4) (ae 5) (ae 6) (ae 7) (ae 8) (ae 9) (ae 10) P Hh j k (by omega) hj hk hpar hH0 hHs hHb) [0, 1, 2] rfl hM)⟩
    · exact ⟨(-1), n, tp, P, Hh, Tm, Bt, Zb, val, hI, (cS (c_fork_nob l D cI cJ cZ (ad 0) rm n tp (ad 1) (ad 2) (ad 3) (ad 4) (ad 5) (ad 6) (ad 7) (ad 8) (ad 9) (ad 11) j y (by omega) hj hy) [0] rfl hC), (mS (k_fork_nob l D cI cJ cZ (ae 0) rm n (ae 1) (ae 2) (ae 3) (ae 4) (ae 5) (ae 6) (ae 7) (ae 8) (ae 9) (ae 10) j y (by omega) hj hy) [0] rfl hM)⟩
  · exact ⟨(-1), n, tp, P, Hh, Tm, Bt, Zb, val, hI, (cS (c_fork_noa l D cI cJ cZ (ad 0) rm n tp (ad 1) (ad 2) (ad 3) (ad 4) (ad 5) (ad 6) (ad 7) (ad 8) (ad 9) (ad 11) x y hx) [0] rfl hC), (mS (k_fork_noa l D cI cJ cZ (ae 0) rm n (ae 1) (ae 2) (ae 3) (ae 4) (ae 5) (ae 6) (ae 7) (ae 8) (ae 9) (ae 10) x y hx) [0] rfl hM)⟩

set_option maxRecDepth 100000 in
set_option maxHeartbeats 4000000 in
theorem b_row (l : Launch) (D : va_G) (cI cJ cZ : ClassId) (ad ae : Nat → Nat) {rm n tp : Nat} {P Hh Ch : Nat → Nat} {Tm Bt : Nat → Int64} {Zb val : Nat → Nat} {Wk Rk pr : Nat → Int64} {kn : Int64} {fd fr fq : Nat → Int64} {Sm α β γ : Nat → Nat} {Rk2 : Nat → Int64} (hI : Inv rm n tp P Hh Bt Zb val) (hC : InvC rm n P Ch Wk pr kn fd fq val) (hM : InvM n Sm α β γ val) (x h : Int32) : Both l D cI cJ cZ ad ae rm Int32 Value.int yT_row wT_row rm_c_row_ok yM_row wM_row rm_k_row [.int x, .int h] (TDW cI cJ cZ ad rm n tp P Hh Ch Tm Bt Zb Wk Rk pr kn fd fr fq) (MDW cI cJ cZ ae rm n P Hh Tm Bt Zb Sm α β γ Rk2) := by
  obtain ⟨⟨h1, h2, h3, h4⟩, hpar, hH0, hHs, hHb, hz2, hz0, hzn, hcl, hB, hV, hT⟩ := id hI
  obtain ⟨m1, m2, m3, m4, m5⟩ := id hM
  rcases blk x (n := n) (by omega) with ⟨j, hj, rfl⟩ | hx
  · have hbj := hHb j hj
    rcases Classical.em (h < 0) with g | g
    · exact ⟨(-1), n, tp, P, Hh, Tm, Bt, Zb, val, hI, (cS (c_row_nok l D cI cJ cZ (ad 0) rm n tp (ad 1) (ad 2) (ad 3) (ad 4) (ad 5) (ad 6) (ad 7) (ad 8) (ad 9) (ad 11) Hh j h (by omega) (by omega) hj (fun z => absurd z.1 (Int32.not_le.mpr g))) [0, 2] rfl hC), (mS (k_row_neg l D cI cJ cZ (ae 0) rm n (ae 1) (ae 2) (ae 3) (ae 4) (ae 5) (ae 6) (ae 7) (ae 8) (ae 9) (ae 10) j h (by omega) hj g) [0] rfl hM)⟩
    · obtain ⟨k, hk, rfl⟩ := nI_of g
      have q2 := (mS (k_row l D cI cJ cZ (ae 0) rm n (ae 1) (ae 2) (ae 3) (ae 4) (ae 5) (ae 6) (ae 7) (ae 8) (ae 9) (ae 10) P Hh j k (by omega) hj hk hpar hH0 hHs hHb) [0, 1, 2] rfl hM)
      by_cases c : k ≤ Hh j
      · rw [row_eq k (Hh j) 1 0 (fun _ => rfl)] at q2
        exact ⟨m_rowR P Hh j (m_row k (Hh j) 1 1), n, tp, P, Hh, Tm, Bt, Zb, val, hI, (cS (c_row_ok l D cI cJ cZ (ad 0) rm n tp (ad 1) (ad 2) (ad 3) (ad 4) (ad 5) (ad 6) (ad 7) (ad 8) (ad 9) (ad 11) P Hh j k (by omega) (by omega) hj hbj c hpar) [0, 1, 2] rfl hC), q2⟩
      · rw [row_none k (Hh j) 1 0 (by omega) (by omega)] at q2
        exact ⟨(-1), n, tp, P, Hh, Tm, Bt, Zb, val, hI, (cS (c_row_nok l D cI cJ cZ (ad 0) rm n tp (ad 1) (ad 2) (ad 3) (ad 4) (ad 5) (ad 6) (ad 7) (ad 8) (ad 9) (ad 11) Hh j (nI k) (by omega) (by omega) hj (fun z => absurd z.2 (nI_ge (by omega) hk))) [0, 2] rfl hC), q2⟩
  · exact ⟨(-1), n, tp, P, Hh, Tm, Bt, Zb, val, hI, (cS (c_row_nob l D cI cJ cZ (ad 0) rm n tp (ad 1) (ad 2) (ad 3) (ad 4) (ad 5) (ad 6) (ad 7) (ad 8) (ad 9) (ad 11) x h hx) [0] rfl hC), (mS (k_row_nob l D cI cJ cZ (ae 0) rm n (ae 1) (ae 2) (ae 3) (ae 4) (ae 5) (ae 6) (ae 7) (ae 8) (ae 9) (ae 10) x h hx) [0] rfl hM)⟩

set_option maxRecDepth 100000 in
set_option maxHeartbeats 4000000 in
theorem b_look (l : Launch) (D : va_G) (cI cJ cZ : ClassId) (ad ae : Nat → Nat) {rm n tp : Nat} {P Hh Ch : Nat → Nat} {Tm Bt : Nat → Int64} {Zb val : Nat → Nat} {Wk Rk pr : Nat → Int64} {kn : Int64} {fd fr fq : Nat → Int64} {Sm α β γ : Nat → Nat} {Rk2 : Nat → Int64} (hI : Inv rm n tp P Hh Bt Zb val) (hC : InvC rm n P Ch Wk pr kn fd fq val) (hM : InvM n Sm α β γ val) (x w : Int32) : Both l D cI cJ cZ ad ae rm Int64 Value.long yT_look wT_look rm_c_look_0 yM_look wM_look rm_k_look_0 [.int x, .int w] (TDW cI cJ cZ ad rm n tp P Hh Ch Tm Bt Zb Wk Rk pr kn fd fr fq) (MDW cI cJ cZ ae rm n P Hh Tm Bt Zb Sm α β γ Rk2) := by
  obtain ⟨⟨h1, h2, h3, h4⟩, hpar, hH0, hHs, hHb, hz2, hz0, hzn, hcl, hB, hV, hT⟩ := id hI
  obtain ⟨m1, m2, m3, m4, m5⟩ := id hM
  obtain ⟨c1, -⟩ := id hC
  rcases blk x (n := n) (by omega) with ⟨j, hj, rfl⟩ | hx
  · rcases pk_ix w (n := 6) (by omega) with h | h | ⟨q, hq, rfl⟩
    · exact ⟨(-1), n, tp, P, Hh, Tm, Bt, Zb, val, hI, (cS (c_look_out l D cI cJ cZ (ad 0) rm n tp (ad 1) (ad 2) (ad 3) (ad 4) (ad 5) (ad 6) (ad 7) (ad 8) (ad 9) (ad 11) j w (by omega) hj (Or.inl (by rw [Int32.lt_iff_toInt_lt, Int32.toInt_zero] at h; exact h))) [0] rfl hC), (mS (k_look_out l D cI cJ cZ (ae 0) rm n (ae 1) (ae 2) (ae 3) (ae 4) (ae 5) (ae 6) (ae 7) (ae 8) (ae 9) (ae 10) P j w (by omega) hj (Or.inl (by rw [Int32.lt_iff_toInt_lt, Int32.toInt_zero] at h; exact h))) [0, 1] rfl hM)⟩
    · exact ⟨(-1), n, tp, P, Hh, Tm, Bt, Zb, val, hI, (cS (c_look_out l D cI cJ cZ (ad 0) rm n tp (ad 1) (ad 2) (ad 3) (ad 4) (ad 5) (ad 6) (ad 7) (ad 8) (ad 9) (ad 11) j w (by omega) hj (Or.inr (by rw [Int32.le_iff_toInt_le] at h; rw [show (nI 6).toInt = 6 from rfl] at h; omega))) [0] rfl hC), (mS (k_look_out l D cI cJ cZ (ae 0) rm n (ae 1) (ae 2) (ae 3) (ae 4) (ae 5) (ae 6) (ae 7) (ae 8) (ae 9) (ae 10) P j w (by omega) hj (Or.inr (by rw [Int32.le_iff_toInt_le] at h; rw [show (nI 6).toInt = 6 from rfl] at h; omega))) [0, 1] rfl hM)⟩
    · rcases (show q = 0 ∨ q = 1 ∨ q = 2 ∨ q = 3 ∨ q = 4 ∨ q = 5 by omega) with rfl | rfl | rfl | rfl | rfl | rfl
      · exact ⟨(pF P j).toInt64, n, tp, P, Hh, Tm, Bt, Zb, val, hI, (cS (c_look_0 l D cI cJ cZ (ad 0) rm n tp (ad 1) (ad 2) (ad 3) (ad 4) (ad 5) (ad 6) (ad 7) (ad 8) (ad 9) (ad 11) P j (by omega) (by omega) hj) [0, 1] rfl hC), (mS (k_look_0 l D cI cJ cZ (ae 0) rm n (ae 1) (ae 2) (ae 3) (ae 4) (ae 5) (ae 6) (ae 7) (ae 8) (ae 9) (ae 10) P j (by omega) hj) [0, 1] rfl hM)⟩
      · exact ⟨(nI (Hh j)).toInt64, n, tp, P, Hh, Tm, Bt, Zb, val, hI, (cS (c_look_1 l D cI cJ cZ (ad 0) rm n tp (ad 1) (ad 2) (ad 3) (ad 4) (ad 5) (ad 6) (ad 7) (ad 8) (ad 9) (ad 11) Hh j (by omega) (by omega) hj) [0, 2] rfl hC), (mS (k_look_1 l D cI cJ cZ (ae 0) rm n (ae 1) (ae 2) (ae 3) (ae 4) (ae 5) (ae 6) (ae 7) (ae 8) (ae 9) (ae 10) P Hh j (by omega) hj) [0, 1, 2] rfl hM)⟩
      · exact ⟨Tm j, n, tp, P, Hh, Tm, Bt, Zb, val, hI, (cS (c_look_2 l D cI cJ cZ (ad 0) rm n tp (ad 1) (ad 2) (ad 3) (ad 4) (ad 5) (ad 6) (ad 7) (ad 8) (ad 9) (ad 11) Tm j (by omega) (by omega) hj) [0, 4] rfl hC), (mS (k_look_2 l D cI cJ cZ (ae 0) rm n (ae 1) (ae 2) (ae 3) (ae 4) (ae 5) (ae 6) (ae 7) (ae 8) (ae 9) (ae 10) P Tm j (by omega) hj) [0, 1, 3] rfl hM)⟩
      · exact ⟨Bt j, n, tp, P, Hh, Tm, Bt, Zb, val, hI, (cS (c_look_3 l D cI cJ cZ (ad 0) rm n tp (ad 1) (ad 2) (ad 3) (ad 4) (ad 5) (ad 6) (ad 7) (ad 8) (ad 9) (ad 11) Bt j (by omega) (by omega) hj) [0, 5] rfl hC), (mS (k_look_3 l D cI cJ cZ (ae 0) rm n (ae 1) (ae 2) (ae 3) (ae 4) (ae 5) (ae 6) (ae 7) (ae 8) (ae 9) (ae 10) P Bt j (by omega) hj) [0, 1, 4] rfl hM)⟩
      · exact ⟨if Zb j = 0 then 0 else 1, n, tp, P, Hh, Tm, Bt, Zb, val, hI, (cS (c_look_4 l D cI cJ cZ (ad 0) rm n tp (ad 1) (ad 2) (ad 3) (ad 4) (ad 5) (ad 6) (ad 7) (ad 8) (ad 9) (ad 11) Zb j (by omega) (by omega) hj (hz2 j)) [0, 6] rfl hC), (mS (k_look_4 l D cI cJ cZ (ae 0) rm n (ae 1) (ae 2) (ae 3) (ae 4) (ae 5) (ae 6) (ae 7) (ae 8) (ae 9) (ae 10) P Zb j (by omega) hj (hz2 j)) [0, 1, 5] rfl hM)⟩
      · have q1 := (cS (c_look_5 l D cI cJ cZ (ad 0) rm n tp (ad 1) (ad 2) (ad 3) (ad 4) (ad 5) (ad 6) (ad 7) (ad 8) (ad 9) (ad 11) Ch j (by omega) (by omega) hj) [0, 3] rfl hC)
        rw [c1 j hj] at q1
        exact ⟨(nI (r_ch P j n 0 0)).toInt64, n, tp, P, Hh, Tm, Bt, Zb, val, hI, q1, (mS (k_look_5 l D cI cJ cZ (ae 0) rm n (ae 1) (ae 2) (ae 3) (ae 4) (ae 5) (ae 6) (ae 7) (ae 8) (ae 9) (ae 10) P j (by omega) hj) [0, 1] rfl hM)⟩
  · exact ⟨(-1), n, tp, P, Hh, Tm, Bt, Zb, val, hI, (cS (c_look_nob l D cI cJ cZ (ad 0) rm n tp (ad 1) (ad 2) (ad 3) (ad 4) (ad 5) (ad 6) (ad 7) (ad 8) (ad 9) (ad 11) x w hx) [0] rfl hC), (mS (k_look_nob l D cI cJ cZ (ae 0) rm n (ae 1) (ae 2) (ae 3) (ae 4) (ae 5) (ae 6) (ae 7) (ae 8) (ae 9) (ae 10) x w hx) [0] rfl hM)⟩
