/-! THE MAKERS: both begin alike -/
def adT (o aP aH aC aT aB aZ aW aR oR aQ oW dv rs qt : Nat) : Nat → Nat := fun i => match i with
  | 0 => o
  | 1 => aP
  | 2 => aH
  | 3 => aC
  | 4 => aT
  | 5 => aB
  | 6 => aZ
  | 7 => aW
  | 8 => aR
  | 9 => oR
  | 10 => aQ
  | 11 => oW
  | 12 => dv
  | 13 => rs
  | _ => qt
def adM (o aP aH aT aB aZ aS aa ab ac aR : Nat) : Nat → Nat := fun i => match i with
  | 0 => o
  | 1 => aP
  | 2 => aH
  | 3 => aT
  | 4 => aB
  | 5 => aZ
  | 6 => aS
  | 7 => aa
  | 8 => ab
  | 9 => ac
  | _ => aR

theorem dlen_0 : m_dlen (m_set 545259519 (fun _ => 0)) 8 0 = nI 255 := by decide +kernel
theorem lit_0 : (545259519 : Int64) = lN 545259519 := rfl
def val0 : Nat → Nat := fun _ => wrk 545259519
def Bt0 : Nat → Int64 := vp_updL (fun _ => 0) 0 (lN 545259519)
def Tm0 (t : Int32) : Nat → Int64 := vp_updL (fun _ => 0) 0 (t.toInt64 &&& 4294967295)
theorem inv_0 {rm : Nat} (h2 : 2 ≤ rm) (h3 : rm ≤ 300) : Inv rm 1 0 z0 z0 Bt0 z0 val0 := by
  have hz : ∀ x : Nat, z0 x = 0 := fun _ => rfl
  refine ⟨⟨by omega, by omega, h2, h3⟩, fun x h1 h2 => by omega, rfl, fun x h1 h2 => by omega, fun x _ => by rw [hz]; omega, fun x => by rw [hz]; omega, rfl, fun x _ => rfl, fun x h1 h2 => by omega, fun x hx => ?_, fun x hx => ?_, isBest_0 rfl⟩
  · rw [show x = 0 by omega]
    exact ⟨545259519, by unfold Bt0; rw [pk_uLs], good_0⟩
  · have h := wrk_le good_0 (by omega)
    unfold val0
    rw [hz, Nat.zero_add, Nat.one_mul]
    exact h
theorem invC_0 {rm : Nat} (h2 : 2 ≤ rm) : InvC rm 1 z0 z0 (va_cpy (m_dv (m_set 545259519 (fun _ => 0)) (fun _ => 0) (fun _ => 0) (255 - 2)).2 (fun _ => 0) 0 0 8) (fun _ => 0) 545259519 (m_set 545259519 (fun _ => 0)) (m_dv (m_set 545259519 (fun _ => 0)) (fun _ => 0) (fun _ => 0) (255 - 2)).2 val0 := by
  have l0 : lim (fun _ => (0 : Int64)) (fun _ => 0) 8 := fun i _ => ⟨rfl, by show 0 < 4294967296; omega⟩
  have dl := dlen_0
  rw [lit_0] at dl ⊢
  obtain ⟨L, d1, d2, d3, d4, hq, lq, vq⟩ := worth_C (r := fun _ => 0) (q := fun _ => 0) good_0 (by omega) l0
  have eL : 255 = L := n_eq (dl.symm.trans d1) (by omega) (by omega)
  subst eL
  refine ⟨fun j hj => ?_, fun j _ => rfl, ⟨fun k => if k < 8 then hq k else 0, ?_, ?_⟩, ⟨fun _ => 0, fun i _ => ⟨rfl, by show 0 < 4294967296; omega⟩⟩, d4, ⟨545259519, hq, rfl, by omega, lq, vq⟩⟩
  · rw [show j = 0 by omega, r_ch, r_ch, if_neg (by decide)]; rfl
  · intro i hi
    show va_cpy (m_dv (m_set (lN 545259519) (fun _ => 0)) (fun _ => 0) (fun _ => 0) (255 - 2)).2 (fun _ => 0) 0 0 8 i = lN (if i < 8 then hq i else 0) ∧ (if i < 8 then hq i else 0) < 4294967296
    unfold va_cpy
    by_cases c : i < 8
    · rw [if_pos (by omega), if_pos c, Nat.sub_zero, Nat.zero_add]; exact lq i c
    · rw [if_neg (by omega), if_neg c]; exact ⟨rfl, by omega⟩
  · intro x hx
    rw [show x = 0 by omega]
    show _ = wrk 545259519
    rw [← vq]
    refine vV_congr (fun i hi => ?_)
    show (if 0 * 8 + i < 8 then hq (0 * 8 + i) else 0) = hq i
    rw [Nat.zero_mul, Nat.zero_add, if_pos hi]
theorem invM_0 : InvM 1 (r_cpyL (r_quo (r_open 545259519 z0) z0 z0).1 40 0 0 z0) (r_quo (r_open 545259519 z0) z0 z0).1 (r_inc (r_open 545259519 z0) z0) (r_quo (r_open 545259519 z0) z0 z0).2 val0 := by
  have hT := good_T good_0
  have e1 : sV (r_open 545259519 z0) 0 40 = tgt 545259519 := op_V good_0.1 (Nat.lt_trans hT (by decide))
  have e2 : sV (r_quo (r_open 545259519 z0) z0 z0).1 0 40 = wrk 545259519 := r_quo_V by8_z0 by8_z0 e1 (Nat.lt_of_le_of_lt hT (by decide))
  refine ⟨r_cpyL_by by8_z0, r_quo_8 (r_open_by by8_z0), r_incL_by by8_z0, r_qL_by (by8_z by8_z0), fun x hx => ?_⟩
  rw [show x = 0 by omega, ← sV_shf]
  obtain ⟨co, -, a3⟩ := cpy_V (A := (r_quo (r_open 545259519 z0) z0 z0).1) 40 0 0 z0 rfl
  rw [e2, Nat.add_zero] at a3
  have hw := wrk_le good_0 (by omega)
  exact ar_co a3 (Nat.lt_of_le_of_lt hw (by decide))
theorem rx_mono {X : State → Prop} {l : Launch} {y : MethodName} {ws : List Cond} {rm : Room} {D : va_G} {cl : List vw_C} {tys : List (ClassId × FieldType)} {av : List Value} {w0 : va_W} {post post' : Option Value → va_W → Prop} {mc ms : Nat} (h : rx_C X l y ws rm D cl tys av w0 post mc ms) (hq : ∀ v w, post v w → post' v w) : rx_C X l y ws rm D cl tys av w0 post' mc ms := fun sz =>
  met_mono (h sz) (fun _ _ h => h) (fun _ _ _ _ _ h => ⟨by obtain ⟨v, w, h1, h2, h3⟩ := h.1; exact ⟨v, w, h1, hq v w h2, h3⟩, h.2⟩) (fun _ h => h)
abbrev XT : State → Prop := fun U => va_Nw (.methodLinkNest RT 44 yR_init RT) U ∧ va_Nw (.methodLinkNest RT 51 yW_init RT) U
abbrev oT0 : va_E := .inr (2, [.int 0, .int 0, .int 0, .null, .null, .null, .null, .null, .null, .null, .null, .null, .null])
abbrev oM0 : va_E := .inr (3, [.int 0, .int 0, .null, .null, .null, .null, .null, .null, .null, .null, .null, .null])
abbrev CMade (cI cJ cZ : ClassId) (rm ob : Nat) (t : Int32) : Option Value → va_W → Prop := fun v9 w9 => v9 = none ∧ ∃ ad : Nat → Nat, ad 0 = ob ∧ ∃ (Ch : Nat → Nat) (Wk Rk pr : Nat → Int64) (kn : Int64) (fd fr fq : Nat → Int64), InvC rm 1 z0 Ch Wk pr kn fd fq val0 ∧ w9 = TDW cI cJ cZ ad rm 1 0 z0 z0 Ch (Tm0 t) Bt0 z0 Wk Rk pr kn fd fr fq
abbrev MMade (cI cJ cZ : ClassId) (rm ob : Nat) (t : Int32) : Option Value → va_W → Prop := fun v9 w9 => v9 = none ∧ ∃ ae : Nat → Nat, ae 0 = ob ∧ ∃ (Sm α β γ : Nat → Nat) (Rk2 : Nat → Int64), InvM 1 Sm α β γ val0 ∧ w9 = MDW cI cJ cZ ae rm 1 z0 z0 (Tm0 t) Bt0 z0 Sm α β γ Rk2

set_option maxRecDepth 100000 in
set_option maxHeartbeats 4000000 in
theorem mk_both (l : Launch) (D : va_G) (cI cJ cZ : ClassId) (x t : Int32) : ∃ rm : Nat, Inv rm 1 0 z0 z0 Bt0 z0 val0 ∧
    (∀ o : Nat, rx_C XT l yT_init wT_init rm_c_T_init_in D vwCl (gT cI cJ cZ) [.ref o, .int x, .int t] [(o, oT0)] (CMade cI cJ cZ rm o t) 14 4249) ∧
    (∀ o : Nat, rw_C l yM_init wM_init rm_k_init_in D vwCl (gT cI cJ cZ) [.ref o, .int x, .int t] [(o, oM0)] (MMade cI cJ cZ rm o t) 10 13631) := by
  have eu : upd (fun _ => (0 : Int32)) 0 (-1) = pF z0 := by rw [nF_z]; exact pF_z
  by_cases h : nI 2 ≤ x ∧ x ≤ nI 300
  · obtain ⟨k, hk, rfl⟩ := nI_of (x := x) (fun q => by have h1 := h.1; rw [Int32.le_iff_toInt_le] at h1; rw [Int32.lt_iff_toInt_lt] at q; rw [show (nI 2).toInt = 2 from rfl] at h1; rw [show (0 : Int32).toInt = 0 from rfl] at q; omega)
    have h2 : 2 ≤ k := n_le h.1 (by omega) hk
    have h3 : k ≤ 300 := n_le h.2 hk (by omega)
    refine ⟨k, inv_0 h2 h3, fun o => rx_mono (c_T_init_in l D cI cJ cZ o k t h2 h3) (fun v w q => ?_), fun o => rw_mono (k_init_in l D cI cJ cZ o k t h2 h3) (fun v w q => ?_)⟩
    · obtain ⟨rfl, aP, aH, aC, aT, aB, aZ, aW, aR, oR, aQ, oW, dv, rs, qt, rfl⟩ := q
      rw [eu, nF_z]
      exact ⟨rfl, adT o aP aH aC aT aB aZ aW aR oR aQ oW dv rs qt, rfl, z0, (va_cpy (m_dv (m_set 545259519 (fun _ => 0)) (fun _ => 0) (fun _ => 0) (255 - 2)).2 (fun _ => 0) 0 0 8), (fun _ => 0), (fun _ => 0), 545259519, m_set 545259519 (fun _ => 0), (m_dv (m_set 545259519 (fun _ => 0)) (fun _ => 0) (fun _ => 0) (255 - 2)).1, (m_dv (m_set 545259519 (fun _ => 0)) (fun _ => 0) (fun _ => 0) (255 - 2)).2, invC_0 h2, rfl⟩
    · obtain ⟨rfl, aP, aH, aT, aB, aZ, aS, aa, ab, ac, aR, rfl⟩ := q
      exact ⟨rfl, adM o aP aH aT aB aZ aS aa ab ac aR, rfl, r_cpyL (r_quo (r_open 545259519 z0) z0 z0).1 40 0 0 z0, (r_quo (r_open 545259519 z0) z0 z0).1, r_inc (r_open 545259519 z0) z0, (r_quo (r_open 545259519 z0) z0 z0).2, fun _ => 0, invM_0, rfl⟩
  · refine ⟨100, inv_0 (by omega) (by omega), fun o => rx_mono (c_T_init_out l D cI cJ cZ o x t h) (fun v w q => ?_), fun o => rw_mono (k_init_out l D cI cJ cZ o x t h) (fun v w q => ?_)⟩
    · obtain ⟨rfl, aP, aH, aC, aT, aB, aZ, aW, aR, oR, aQ, oW, dv, rs, qt, rfl⟩ := q
      rw [eu, nF_z]
      exact ⟨rfl, adT o aP aH aC aT aB aZ aW aR oR aQ oW dv rs qt, rfl, z0, (va_cpy (m_dv (m_set 545259519 (fun _ => 0)) (fun _ => 0) (fun _ => 0) (255 - 2)).2 (fun _ => 0) 0 0 8), (fun _ => 0), (fun _ => 0), 545259519, m_set 545259519 (fun _ => 0), (m_dv (m_set 545259519 (fun _ => 0)) (fun _ => 0) (fun _ => 0) (255 - 2)).1, (m_dv (m_set 545259519 (fun _ => 0)) (fun _ => 0) (fun _ => 0) (255 - 2)).2, invC_0 (by omega), rfl⟩
    · obtain ⟨rfl, aP, aH, aT, aB, aZ, aS, aa, ab, ac, aR, rfl⟩ := q
      exact ⟨rfl, adM o aP aH aT aB aZ aS aa ab ac aR, rfl, r_cpyL (r_quo (r_open 545259519 z0) z0 z0).1 40 0 0 z0, (r_quo (r_open 545259519 z0) z0 z0).1, r_inc (r_open 545259519 z0) z0, (r_quo (r_open 545259519 z0) z0 z0).2, fun _ => 0, invM_0, rfl⟩
