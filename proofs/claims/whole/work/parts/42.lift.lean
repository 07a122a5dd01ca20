/-! LIFTS: a contract over some cells is one over more -/
theorem ro_lift {l : Launch} {y : MethodName} {ws0 : List Cond} {rm : Room} {D : va_G} {cl : List vw_C} {tys : List (ClassId × FieldType)} {av : List Value} {wc ws : va_W} {v : Option Value} (h : ro_C l y ws0 rm D cl tys av wc v) (isC : List Nat) (hC : isC.filterMap (fun i => ws[i]?) = wc) : ro_C l y ws0 rm D cl tys av ws v :=
  met_mono h (fun _ _ q => ⟨q.1, q.2.1.sub isC hC, q.2.2⟩) (fun _ _ _ _ _ q => q) (fun _ q => q)
theorem rw_lift {l : Launch} {y : MethodName} {ws0 : List Cond} {rm : Room} {D : va_G} {cl : List vw_C} {tys : List (ClassId × FieldType)} {av : List Value} {wc ws wr : va_W} {post post' : Option Value → va_W → Prop} {mc ms : Nat} (h : rw_C l y ws0 rm D cl tys av wc post mc ms)
    (isC isR perm : List Nat) (hC : isC.map (fun i => ws[i]?) = wc.map some) (hC2 : isC.filterMap (fun i => ws[i]?) = wc) (hR : isR.map (fun i => ws[i]?) = wr.map some) (hn : va_nd isR = true) (hnC : va_nd isC = true) (hnP : va_nd perm = true) (hdis : ∀ i ∈ isR, i ∉ isC)
    (hpost : ∀ (v : Option Value) (w1 : va_W), post v w1 → ∃ w2 : va_W, post' v w2 ∧ perm.filterMap (fun i => (wr ++ w1)[i]?) = w2 ∧ perm.map (fun i => (wr ++ w1)[i]?) = w2.map some) : rw_C l y ws0 rm D cl tys av ws post' mc ms := by
  intro sz
  have hAA : ∀ q, va_A wc sz q → va_A ws sz q := by
    intro q h
    rcases h with ⟨k, e, h⟩ | h
    · left
      have h1 : (isC.map (fun i => ws[i]?))[k]? = some (some (q, e)) := by rw [hC, List.getElem?_map, h]; rfl
      rw [List.getElem?_map] at h1
      cases hi : isC[k]? with
      | none => rw [hi] at h1; cases h1
      | some i => rw [hi] at h1; exact ⟨i, e, Option.some.inj h1⟩
    · exact Or.inr h
  refine met_mono (h sz) (fun a s q => ?_) (fun a s o t q hQ => ?_) hAA
  · obtain ⟨q0, q1, qP, qK, qD⟩ := q
    exact ⟨q0, q1, qP.sub isC hC2, qK, qD.sub isC hnC hC⟩
  · obtain ⟨q0, q1, qP, qK, qD⟩ := q
    obtain ⟨⟨v, w, hv, hp, hPw, hDw⟩, hz, hk⟩ := hQ
    subst q1
    have hD2 : va_D (va_A ws s.heap.size) ws := qD.self
    obtain ⟨hP3, hD3⟩ := va_join (wr := wr) (w1 := w) (H1 := t.heap) qP hD2 isC isR hC hR hn hdis hk hAA hPw hDw
    obtain ⟨w2, hp2, e1, e2⟩ := hpost v w hp
    exact ⟨⟨v, w2, hv, hp2, hP3.sub perm e1, hD3.sub perm hnP e2⟩, hz, fun q h1 h2 => hk q h1 (fun z => h2 (hAA q z))⟩
