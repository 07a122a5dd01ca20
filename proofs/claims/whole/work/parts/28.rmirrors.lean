def z0 : Nat → Nat := fun _ => 0
theorem nF_z : (fun _ => (0 : Int32)) = nF z0 := by funext x; exact nI_0.symm
theorem pF_z : upd (nF z0) 0 (-1) = pF z0 := by
  funext x; unfold upd pF nF z0; by_cases e : x = 0
  · rw [if_pos e]
  · rw [if_neg e]
theorem nF_zz : upd (nF z0) 0 (nI 0) = nF z0 := by
  funext x; unfold upd nF z0; by_cases e : x = 0
  · rw [if_pos e]
  · rw [if_neg e]
theorem by8_z0 : by8 z0 := fun _ => by unfold z0; omega
