abbrev rm_c_J_nlzi : Room := { frames := 0, cells := 0, slots := 0, locals := 0 }
set_option maxRecDepth 100000 in
set_option maxHeartbeats 4000000 in
theorem c_J_nlzi (l : Launch) (D : va_G) (cI cJ cZ : ClassId) (i : Int32)  : ro_C l yJI_numberOfLeadingZeros wJI_numberOfLeadingZeros rm_c_J_nlzi D vwCl (gT cI cJ cZ) [.int i] [] (some (.int (m_nlzi i))) := by
  refine ro_of (cc := cJI_numberOfLeadingZeros) (maxL := 2) (ret := some .int) (by decide) rfl (Nat.le_of_ble_eq_true rfl) ?_
  intro p e s m args below meth c Q ls hx hb hr hml hown hts hlocks hK hP hl hQ
  have hl : lv_has ls 2 [(0, .int i)] := hl
  have hown : s.vm.findClass RJI = some m.cls := hown
  refine lv_iload_n hx hb dJI_numberOfLeadingZeros_0 rfl (lv_at hl 0 rfl) ?_
  refine lv_if_gt (tgt := 15) hx hb dJI_numberOfLeadingZeros_1 (by decide) (fun c_1 => ?_) (fun c_1 => ?_)
  · skip
    refine lv_bipush (v := nI 31) hx hb dJI_numberOfLeadingZeros_15 (by decide) ?_
    refine lv_istore_n (lv' := [(1, .int (nI 31)), (0, .int i)]) hx hb dJI_numberOfLeadingZeros_17 rfl hl (by decide) rfl (fun ls hl => ?_)
    refine lv_iload_n hx hb dJI_numberOfLeadingZeros_18 rfl (lv_at hl 1 rfl) ?_
    refine lv_ldcw (v := nI 65536) hx hb hown (hts (.constant RJI 264 65536) (by decide +kernel)) dJI_numberOfLeadingZeros_19 ?_
    refine lv_icmp_lt (tgt := 33) hx hb dJI_numberOfLeadingZeros_22 (by decide) (fun c_22 => ?_) (fun c_22 => ?_)
    · skip
      refine lv_iload_n hx hb dJI_numberOfLeadingZeros_33 rfl (lv_at hl 1 rfl) ?_
      refine lv_sipush (v := nI 256) hx hb dJI_numberOfLeadingZeros_34 (by decide) ?_
      refine lv_icmp_lt (tgt := 48) hx hb dJI_numberOfLeadingZeros_37 (by decide) (fun c_37 => ?_) (fun c_37 => ?_)
      · skip
        refine lv_iload_n hx hb dJI_numberOfLeadingZeros_48 rfl (lv_at hl 1 rfl) ?_
        refine lv_bipush (v := nI 16) hx hb dJI_numberOfLeadingZeros_49 (by decide) ?_
        refine lv_icmp_lt (tgt := 61) hx hb dJI_numberOfLeadingZeros_51 (by decide) (fun c_51 => ?_) (fun c_51 => ?_)
        · skip
          refine lv_iload_n hx hb dJI_numberOfLeadingZeros_61 rfl (lv_at hl 1 rfl) ?_
          refine lv_iconst (v := nI 4) hx hb dJI_numberOfLeadingZeros_62 (by decide) ?_
          refine lv_icmp_lt (tgt := 73) hx hb dJI_numberOfLeadingZeros_63 (by decide) (fun c_63 => ?_) (fun c_63 => ?_)
          · skip
            refine lv_iload_n hx hb dJI_numberOfLeadingZeros_73 rfl (lv_at hl 0 rfl) ?_
            refine lv_iload_n hx hb dJI_numberOfLeadingZeros_74 rfl (lv_at hl 1 rfl) ?_
            refine lv_iconst (v := nI 1) hx hb dJI_numberOfLeadingZeros_75 (by decide) ?_
            refine lv_iushr (v := j_iushr i (nI 1)) hx hb dJI_numberOfLeadingZeros_76 rfl ?_
            refine lv_isub hx hb dJI_numberOfLeadingZeros_77 ?_
            exact ro_iret hQ hx hb hr hlocks dJI_numberOfLeadingZeros_78 (by simp [m_nlzi, m_nz, c_1, c_22, c_37, c_51, c_63])
          · skip
            refine lv_iinc (v := (nI 31) + (-2)) (lv' := [(1, .int ((nI 31) + (-2))), (0, .int i)]) hx hb dJI_numberOfLeadingZeros_66 hl (k := 0) rfl rfl (by decide) rfl (fun ls hl => ?_)
            refine lv_iload_n hx hb dJI_numberOfLeadingZeros_69 rfl (lv_at hl 1 rfl) ?_
            refine lv_iconst (v := nI 2) hx hb dJI_numberOfLeadingZeros_70 (by decide) ?_
            refine lv_iushr (v := j_iushr i (nI 2)) hx hb dJI_numberOfLeadingZeros_71 rfl ?_
            refine lv_istore_n (lv' := [(0, .int (j_iushr i (nI 2))), (1, .int ((nI 31) + (-2)))]) hx hb dJI_numberOfLeadingZeros_72 rfl hl (by decide) rfl (fun ls hl => ?_)
            refine lv_iload_n hx hb dJI_numberOfLeadingZeros_73 rfl (lv_at hl 1 rfl) ?_
            refine lv_iload_n hx hb dJI_numberOfLeadingZeros_74 rfl (lv_at hl 0 rfl) ?_
            refine lv_iconst (v := nI 1) hx hb dJI_numberOfLeadingZeros_75 (by decide) ?_
            refine lv_iushr (v := j_iushr (j_iushr i (nI 2)) (nI 1)) hx hb dJI_numberOfLeadingZeros_76 rfl ?_
            refine lv_isub hx hb dJI_numberOfLeadingZeros_77 ?_
            exact ro_iret hQ hx hb hr hlocks dJI_numberOfLeadingZeros_78 (by simp [m_nlzi, m_nz, c_1, c_22, c_37, c_51, c_63])
        · skip
          refine lv_iinc (v := (nI 31) + (-4)) (lv' := [(1, .int ((nI 31) + (-4))), (0, .int i)]) hx hb dJI_numberOfLeadingZeros_54 hl (k := 0) rfl rfl (by decide) rfl (fun ls hl => ?_)
          refine lv_iload_n hx hb dJI_numberOfLeadingZeros_57 rfl (lv_at hl 1 rfl) ?_
          refine lv_iconst (v := nI 4) hx hb dJI_numberOfLeadingZeros_58 (by decide) ?_
          refine lv_iushr (v := j_iushr i (nI 4)) hx hb dJI_numberOfLeadingZeros_59 rfl ?_
          refine lv_istore_n (lv' := [(0, .int (j_iushr i (nI 4))), (1, .int ((nI 31) + (-4)))]) hx hb dJI_numberOfLeadingZeros_60 rfl hl (by decide) rfl (fun ls hl => ?_)
          refine lv_iload_n hx hb dJI_numberOfLeadingZeros_61 rfl (lv_at hl 0 rfl) ?_
          refine lv_iconst (v := nI 4) hx hb dJI_numberOfLeadingZeros_62 (by decide) ?_
          refine lv_icmp_lt (tgt := 73) hx hb dJI_numberOfLeadingZeros_63 (by decide) (fun c_63 => ?_) (fun c_63 => ?_)
          · skip
            refine lv_iload_n hx hb dJI_numberOfLeadingZeros_73 rfl (lv_at hl 1 rfl) ?_
            refine lv_iload_n hx hb dJI_numberOfLeadingZeros_74 rfl (lv_at hl 0 rfl) ?_
            refine lv_iconst (v := nI 1) hx hb dJI_numberOfLeadingZeros_75 (by decide) ?_
            refine lv_iushr (v := j_iushr (j_iushr i (nI 4)) (nI 1)) hx hb dJI_numberOfLeadingZeros_76 rfl ?_
            refine lv_isub hx hb dJI_numberOfLeadingZeros_77 ?_
            exact ro_iret hQ hx hb hr hlocks dJI_numberOfLeadingZeros_78 (by simp [m_nlzi, m_nz, c_1, c_22, c_37, c_51, c_63])
          · skip
            refine lv_iinc (v := ((nI 31) + (-4)) + (-2)) (lv' := [(1, .int (((nI 31) + (-4)) + (-2))), (0, .int (j_iushr i (nI 4)))]) hx hb dJI_numberOfLeadingZeros_66 hl (k := 1) rfl rfl (by decide) rfl (fun ls hl => ?_)
            refine lv_iload_n hx hb dJI_numberOfLeadingZeros_69 rfl (lv_at hl 1 rfl) ?_
            refine lv_iconst (v := nI 2) hx hb dJI_numberOfLeadingZeros_70 (by decide) ?_
            refine lv_iushr (v := j_iushr (j_iushr i (nI 4)) (nI 2)) hx hb dJI_numberOfLeadingZeros_71 rfl ?_
            refine lv_istore_n (lv' := [(0, .int (j_iushr (j_iushr i (nI 4)) (nI 2))), (1, .int (((nI 31) + (-4)) + (-2)))]) hx hb dJI_numberOfLeadingZeros_72 rfl hl (by decide) rfl (fun ls hl => ?_)
            refine lv_iload_n hx hb dJI_numberOfLeadingZeros_73 rfl (lv_at hl 1 rfl) ?_
            refine lv_iload_n hx hb dJI_numberOfLeadingZeros_74 rfl (lv_at hl 0 rfl) ?_
            refine lv_iconst (v := nI 1) hx hb dJI_numberOfLeadingZeros_75 (by decide) ?_
            refine lv_iushr (v := j_iushr (j_iushr (j_iushr i (nI 4)) (nI 2)) (nI 1)) hx hb dJI_numberOfLeadingZeros_76 rfl ?_
            refine lv_isub hx hb dJI_numberOfLeadingZeros_77 ?_
            exact ro_iret hQ hx hb hr hlocks dJI_numberOfLeadingZeros_78 (by simp [m_nlzi, m_nz, c_1, c_22, c_37, c_51, c_63])
      · skip
        refine lv_iinc (v := (nI 31) + (-8)) (lv' := [(1, .int ((nI 31) + (-8))), (0, .int i)]) hx hb dJI_numberOfLeadingZeros_40 hl (k := 0) rfl rfl (by decide) rfl (fun ls hl => ?_)
        refine lv_iload_n hx hb dJI_numberOfLeadingZeros_43 rfl (lv_at hl 1 rfl) ?_
        refine lv_bipush (v := nI 8) hx hb dJI_numberOfLeadingZeros_44 (by decide) ?_
        refine lv_iushr (v := j_iushr i (nI 8)) hx hb dJI_numberOfLeadingZeros_46 rfl ?_
        refine lv_istore_n (lv' := [(0, .int (j_iushr i (nI 8))), (1, .int ((nI 31) + (-8)))]) hx hb dJI_numberOfLeadingZeros_47 rfl hl (by decide) rfl (fun ls hl => ?_)
        refine lv_iload_n hx hb dJI_numberOfLeadingZeros_48 rfl (lv_at hl 0 rfl) ?_
        refine lv_bipush (v := nI 16) hx hb dJI_numberOfLeadingZeros_49 (by decide) ?_
        refine lv_icmp_lt (tgt := 61) hx hb dJI_numberOfLeadingZeros_51 (by decide) (fun c_51 => ?_) (fun c_51 => ?_)
        · skip
          refine lv_iload_n hx hb dJI_numberOfLeadingZeros_61 rfl (lv_at hl 0 rfl) ?_
          refine lv_iconst (v := nI 4) hx hb dJI_numberOfLeadingZeros_62 (by decide) ?_
          refine lv_icmp_lt (tgt := 73) hx hb dJI_numberOfLeadingZeros_63 (by decide) (fun c_63 => ?_) (fun c_63 => ?_)
          · skip
            refine lv_iload_n hx hb dJI_numberOfLeadingZeros_73 rfl (lv_at hl 1 rfl) ?_
            refine lv_iload_n hx hb dJI_numberOfLeadingZeros_74 rfl (lv_at hl 0 rfl) ?_
            refine lv_iconst (v := nI 1) hx hb dJI_numberOfLeadingZeros_75 (by decide) ?_
            refine lv_iushr (v := j_iushr (j_iushr i (nI 8)) (nI 1)) hx hb dJI_numberOfLeadingZeros_76 rfl ?_
            refine lv_isub hx hb dJI_numberOfLeadingZeros_77 ?_
            exact ro_iret hQ hx hb hr hlocks dJI_numberOfLeadingZeros_78 (by simp [m_nlzi, m_nz, c_1, c_22, c_37, c_51, c_63])
          · skip
            refine lv_iinc (v := ((nI 31) + (-8)) + (-2)) (lv' := [(1, .int (((nI 31) + (-8)) + (-2))), (0, .int (j_iushr i (nI 8)))]) hx hb dJI_numberOfLeadingZeros_66 hl (k := 1) rfl rfl (by decide) rfl (fun ls hl => ?_)
            refine lv_iload_n hx hb dJI_numberOfLeadingZeros_69 rfl (lv_at hl 1 rfl) ?_
            refine lv_iconst (v := nI 2) hx hb dJI_numberOfLeadingZeros_70 (by decide) ?_
            refine lv_iushr (v := j_iushr (j_iushr i (nI 8)) (nI 2)) hx hb dJI_numberOfLeadingZeros_71 rfl ?_
            refine lv_istore_n (lv' := [(0, .int (j_iushr (j_iushr i (nI 8)) (nI 2))), (1, .int (((nI 31) + (-8)) + (-2)))]) hx hb dJI_numberOfLeadingZeros_72 rfl hl (by decide) rfl (fun ls hl => ?_)
            refine lv_iload_n hx hb dJI_numberOfLeadingZeros_73 rfl (lv_at hl 1 rfl) ?_
            refine lv_iload_n hx hb dJI_numberOfLeadingZeros_74 rfl (lv_at hl 0 rfl) ?_
            refine lv_iconst (v := nI 1) hx hb dJI_numberOfLeadingZeros_75 (by decide) ?_
            refine lv_iushr (v := j_iushr (j_iushr (j_iushr i (nI 8)) (nI 2)) (nI 1)) hx hb dJI_numberOfLeadingZeros_76 rfl ?_
            refine lv_isub hx hb dJI_numberOfLeadingZeros_77 ?_
            exact ro_iret hQ hx hb hr hlocks dJI_numberOfLeadingZeros_78 (by simp [m_nlzi, m_nz, c_1, c_22, c_37, c_51, c_63])
        · skip
          refine lv_iinc (v := ((nI 31) + (-8)) + (-4)) (lv' := [(1, .int (((nI 31) + (-8)) + (-4))), (0, .int (j_iushr i (nI 8)))]) hx hb dJI_numberOfLeadingZeros_54 hl (k := 1) rfl rfl (by decide) rfl (fun ls hl => ?_)
          refine lv_iload_n hx hb dJI_numberOfLeadingZeros_57 rfl (lv_at hl 1 rfl) ?_
          refine lv_iconst (v := nI 4) hx hb dJI_numberOfLeadingZeros_58 (by decide) ?_
          refine lv_iushr (v := j_iushr (j_iushr i (nI 8)) (nI 4)) hx hb dJI_numberOfLeadingZeros_59 rfl ?_
          refine lv_istore_n (lv' := [(0, .int (j_iushr (j_iushr i (nI 8)) (nI 4))), (1, .int (((nI 31) + (-8)) + (-4)))]) hx hb dJI_numberOfLeadingZeros_60 rfl hl (by decide) rfl (fun ls hl => ?_)
          refine lv_iload_n hx hb dJI_numberOfLeadingZeros_61 rfl (lv_at hl 0 rfl) ?_
          refine lv_iconst (v := nI 4) hx hb dJI_numberOfLeadingZeros_62 (by decide) ?_
          refine lv_icmp_lt (tgt := 73) hx hb dJI_numberOfLeadingZeros_63 (by decide) (fun c_63 => ?_) (fun c_63 => ?_)
          · skip
            refine lv_iload_n hx hb dJI_numberOfLeadingZeros_73 rfl (lv_at hl 1 rfl) ?_
            refine lv_iload_n hx hb dJI_numberOfLeadingZeros_74 rfl (lv_at hl 0 rfl) ?_
            refine lv_iconst (v := nI 1) hx hb dJI_numberOfLeadingZeros_75 (by decide) ?_
            refine lv_iushr (v := j_iushr (j_iushr (j_iushr i (nI 8)) (nI 4)) (nI 1)) hx hb dJI_numberOfLeadingZeros_76 rfl ?_
            refine lv_isub hx hb dJI_numberOfLeadingZeros_77 ?_
            exact ro_iret hQ hx hb hr hlocks dJI_numberOfLeadingZeros_78 (by simp [m_nlzi, m_nz, c_1, c_22, c_37, c_51, c_63])
          · skip
            refine lv_iinc (v := (((nI 31) + (-8)) + (-4)) + (-2)) (lv' := [(1, .int ((((nI 31) + (-8)) + (-4)) + (-2))), (0, .int (j_iushr (j_iushr i (nI 8)) (nI 4)))]) hx hb dJI_numberOfLeadingZeros_66 hl (k := 1) rfl rfl (by decide) rfl (fun ls hl => ?_)
            refine lv_iload_n hx hb dJI_numberOfLeadingZeros_69 rfl (lv_at hl 1 rfl) ?_
            refine lv_iconst (v := nI 2) hx hb dJI_numberOfLeadingZeros_70 (by decide) ?_
            refine lv_iushr (v := j_iushr (j_iushr (j_iushr i (nI 8)) (nI 4)) (nI 2)) hx hb dJI_numberOfLeadingZeros_71 rfl ?_
            refine lv_istore_n (lv' := [(0, .int (j_iushr (j_iushr (j_iushr i (nI 8)) (nI 4)) (nI 2))), (1, .int ((((nI 31) + (-8)) + (-4)) + (-2)))]) hx hb dJI_numberOfLeadingZeros_72 rfl hl (by decide) rfl (fun ls hl => ?_)
            refine lv_iload_n hx hb dJI_numberOfLeadingZeros_73 rfl (lv_at hl 1 rfl) ?_
            refine lv_iload_n hx hb dJI_numberOfLeadingZeros_74 rfl (lv_at hl 0 rfl) ?_
            refine lv_iconst (v := nI 1) hx hb dJI_numberOfLeadingZeros_75 (by decide) ?_
            refine lv_iushr (v := j_iushr (j_iushr (j_iushr (j_iushr i (nI 8)) (nI 4)) (nI 2)) (nI 1)) hx hb dJI_numberOfLeadingZeros_76 rfl ?_
            refine lv_isub hx hb dJI_numberOfLeadingZeros_77 ?_
            exact ro_iret hQ hx hb hr hlocks dJI_numberOfLeadingZeros_78 (by simp [m_nlzi, m_nz, c_1, c_22, c_37, c_51, c_63])
    · skip
      refine lv_iinc (v := (nI 31) + (-16)) (lv' := [(1, .int ((nI 31) + (-16))), (0, .int i)]) hx hb dJI_numberOfLeadingZeros_25 hl (k := 0) rfl rfl (by decide) rfl (fun ls hl => ?_)
      refine lv_iload_n hx hb dJI_numberOfLeadingZeros_28 rfl (lv_at hl 1 rfl) ?_
      refine lv_bipush (v := nI 16) hx hb dJI_numberOfLeadingZeros_29 (by decide) ?_
      refine lv_iushr (v := j_iushr i (nI 16)) hx hb dJI_numberOfLeadingZeros_31 rfl ?_
      refine lv_istore_n (lv' := [(0, .int (j_iushr i (nI 16))), (1, .int ((nI 31) + (-16)))]) hx hb dJI_numberOfLeadingZeros_32 rfl hl (by decide) rfl (fun ls hl => ?_)
      refine lv_iload_n hx hb dJI_numberOfLeadingZeros_33 rfl (lv_at hl 0 rfl) ?_
      refine lv_sipush (v := nI 256) hx hb dJI_numberOfLeadingZeros_34 (by decide) ?_
      refine lv_icmp_lt (tgt := 48) hx hb dJI_numberOfLeadingZeros_37 (by decide) (fun c_37 => ?_) (fun c_37 => ?_)
      · skip
        refine lv_iload_n hx hb dJI_numberOfLeadingZeros_48 rfl (lv_at hl 0 rfl) ?_
        refine lv_bipush (v := nI 16) hx hb dJI_numberOfLeadingZeros_49 (by decide) ?_
        refine lv_icmp_lt (tgt := 61) hx hb dJI_numberOfLeadingZeros_51 (by decide) (fun c_51 => ?_) (fun c_51 => ?_)
        · skip
          refine lv_iload_n hx hb dJI_numberOfLeadingZeros_61 rfl (lv_at hl 0 rfl) ?_
          refine lv_iconst (v := nI 4) hx hb dJI_numberOfLeadingZeros_62 (by decide) ?_
          refine lv_icmp_lt (tgt := 73) hx hb dJI_numberOfLeadingZeros_63 (by decide) (fun c_63 => ?_) (fun c_63 => ?_)
          · skip
            refine lv_iload_n hx hb dJI_numberOfLeadingZeros_73 rfl (lv_at hl 1 rfl) ?_
            refine lv_iload_n hx hb dJI_numberOfLeadingZeros_74 rfl (lv_at hl 0 rfl) ?_
            refine lv_iconst (v := nI 1) hx hb dJI_numberOfLeadingZeros_75 (by decide) ?_
            refine lv_iushr (v := j_iushr (j_iushr i (nI 16)) (nI 1)) hx hb dJI_numberOfLeadingZeros_76 rfl ?_
            refine lv_isub hx hb dJI_numberOfLeadingZeros_77 ?_
            exact ro_iret hQ hx hb hr hlocks dJI_numberOfLeadingZeros_78 (by simp [m_nlzi, m_nz, c_1, c_22, c_37, c_51, c_63])
          · skip
            refine lv_iinc (v := ((nI 31) + (-16)) + (-2)) (lv' := [(1, .int (((nI 31) + (-16)) + (-2))), (0, .int (j_iushr i (nI 16)))]) hx hb dJI_numberOfLeadingZeros_66 hl (k := 1) rfl rfl (by decide) rfl (fun ls hl => ?_)
            refine lv_iload_n hx hb dJI_numberOfLeadingZeros_69 rfl (lv_at hl 1 rfl) ?_
            refine lv_iconst (v := nI 2) hx hb dJI_numberOfLeadingZeros_70 (by decide) ?_
            refine lv_iushr (v := j_iushr (j_iushr i (nI 16)) (nI 2)) hx hb dJI_numberOfLeadingZeros_71 rfl ?_
            refine lv_istore_n (lv' := [(0, .int (j_iushr (j_iushr i (nI 16)) (nI 2))), (1, .int (((nI 31) + (-16)) + (-2)))]) hx hb dJI_numberOfLeadingZeros_72 rfl hl (by decide) rfl (fun ls hl => ?_)
            refine lv_iload_n hx hb dJI_numberOfLeadingZeros_73 rfl (lv_at hl 1 rfl) ?_
            refine lv_iload_n hx hb dJI_numberOfLeadingZeros_74 rfl (lv_at hl 0 rfl) ?_
            refine lv_iconst (v := nI 1) hx hb dJI_numberOfLeadingZeros_75 (by decide) ?_
            refine lv_iushr (v := j_iushr (j_iushr (j_iushr i (nI 16)) (nI 2)) (nI 1)) hx hb dJI_numberOfLeadingZeros_76 rfl ?_
            refine lv_isub hx hb dJI_numberOfLeadingZeros_77 ?_
            exact ro_iret hQ hx hb hr hlocks dJI_numberOfLeadingZeros_78 (by simp [m_nlzi, m_nz, c_1, c_22, c_37, c_51, c_63])
        · skip
          refine lv_iinc (v := ((nI 31) + (-16)) + (-4)) (lv' := [(1, .int (((nI 31) + (-16)) + (-4))), (0, .int (j_iushr i (nI 16)))]) hx hb dJI_numberOfLeadingZeros_54 hl (k := 1) rfl rfl (by decide) rfl (fun ls hl => ?_)
          refine lv_iload_n hx hb dJI_numberOfLeadingZeros_57 rfl (lv_at hl 1 rfl) ?_
          refine lv_iconst (v := nI 4) hx hb dJI_numberOfLeadingZeros_58 (by decide) ?_
          refine lv_iushr (v := j_iushr (j_iushr i (nI 16)) (nI 4)) hx hb dJI_numberOfLeadingZeros_59 rfl ?_
          refine lv_istore_n (lv' := [(0, .int (j_iushr (j_iushr i (nI 16)) (nI 4))), (1, .int (((nI 31) + (-16)) + (-4)))]) hx hb dJI_numberOfLeadingZeros_60 rfl hl (by decide) rfl (fun ls hl => ?_)
          refine lv_iload_n hx hb dJI_numberOfLeadingZeros_61 rfl (lv_at hl 0 rfl) ?_
          refine lv_iconst (v := nI 4) hx hb dJI_numberOfLeadingZeros_62 (by decide) ?_
          refine lv_icmp_lt (tgt := 73) hx hb dJI_numberOfLeadingZeros_63 (by decide) (fun c_63 => ?_) (fun c_63 => ?_)
          · skip
            refine lv_iload_n hx hb dJI_numberOfLeadingZeros_73 rfl (lv_at hl 1 rfl) ?_
            refine lv_iload_n hx hb dJI_numberOfLeadingZeros_74 rfl (lv_at hl 0 rfl) ?_
            refine lv_iconst (v := nI 1) hx hb dJI_numberOfLeadingZeros_75 (by decide) ?_
            refine lv_iushr (v := j_iushr (j_iushr (j_iushr i (nI 16)) (nI 4)) (nI 1)) hx hb dJI_numberOfLeadingZeros_76 rfl ?_
            refine lv_isub hx hb dJI_numberOfLeadingZeros_77 ?_
            exact ro_iret hQ hx hb hr hlocks dJI_numberOfLeadingZeros_78 (by simp [m_nlzi, m_nz, c_1, c_22, c_37, c_51, c_63])
          · skip
            refine lv_iinc (v := (((nI 31) + (-16)) + (-4)) + (-2)) (lv' := [(1, .int ((((nI 31) + (-16)) + (-4)) + (-2))), (0, .int (j_iushr (j_iushr i (nI 16)) (nI 4)))]) hx hb dJI_numberOfLeadingZeros_66 hl (k := 1) rfl rfl (by decide) rfl (fun ls hl => ?_)
            refine lv_iload_n hx hb dJI_numberOfLeadingZeros_69 rfl (lv_at hl 1 rfl) ?_
            refine lv_iconst (v := nI 2) hx hb dJI_numberOfLeadingZeros_70 (by decide) ?_
            refine lv_iushr (v := j_iushr (j_iushr (j_iushr i (nI 16)) (nI 4)) (nI 2)) hx hb dJI_numberOfLeadingZeros_71 rfl ?_
            refine lv_istore_n (lv' := [(0, .int (j_iushr (j_iushr (j_iushr i (nI 16)) (nI 4)) (nI 2))), (1, .int ((((nI 31) + (-16)) + (-4)) + (-2)))]) hx hb dJI_numberOfLeadingZeros_72 rfl hl (by decide) rfl (fun ls hl => ?_)
            refine lv_iload_n hx hb dJI_numberOfLeadingZeros_73 rfl (lv_at hl 1 rfl) ?_
            refine lv_iload_n hx hb dJI_numberOfLeadingZeros_74 rfl (lv_at hl 0 rfl) ?_
            refine lv_iconst (v := nI 1) hx hb dJI_numberOfLeadingZeros_75 (by decide) ?_
            refine lv_iushr (v := j_iushr (j_iushr (j_iushr (j_iushr i (nI 16)) (nI 4)) (nI 2)) (nI 1)) hx hb dJI_numberOfLeadingZeros_76 rfl ?_
            refine lv_isub hx hb dJI_numberOfLeadingZeros_77 ?_
            exact ro_iret hQ hx hb hr hlocks dJI_numberOfLeadingZeros_78 (by simp [m_nlzi, m_nz, c_1, c_22, c_37, c_51, c_63])
      · skip
        refine lv_iinc (v := ((nI 31) + (-16)) + (-8)) (lv' := [(1, .int (((nI 31) + (-16)) + (-8))), (0, .int (j_iushr i (nI 16)))]) hx hb dJI_numberOfLeadingZeros_40 hl (k := 1) rfl rfl (by decide) rfl (fun ls hl => ?_)
        refine lv_iload_n hx hb dJI_numberOfLeadingZeros_43 rfl (lv_at hl 1 rfl) ?_
        refine lv_bipush (v := nI 8) hx hb dJI_numberOfLeadingZeros_44 (by decide) ?_
        refine lv_iushr (v := j_iushr (j_iushr i (nI 16)) (nI 8)) hx hb dJI_numberOfLeadingZeros_46 rfl ?_
        refine lv_istore_n (lv' := [(0, .int (j_iushr (j_iushr i (nI 16)) (nI 8))), (1, .int (((nI 31) + (-16)) + (-8)))]) hx hb dJI_numberOfLeadingZeros_47 rfl hl (by decide) rfl (fun ls hl => ?_)
        refine lv_iload_n hx hb dJI_numberOfLeadingZeros_48 rfl (lv_at hl 0 rfl) ?_
        refine lv_bipush (v := nI 16) hx hb dJI_numberOfLeadingZeros_49 (by decide) ?_
        refine lv_icmp_lt (tgt := 61) hx hb dJI_numberOfLeadingZeros_51 (by decide) (fun c_51 => ?_) (fun c_51 => ?_)
        · skip
          refine lv_iload_n hx hb dJI_numberOfLeadingZeros_61 rfl (lv_at hl 0 rfl) ?_
          refine lv_iconst (v := nI 4) hx hb dJI_numberOfLeadingZeros_62 (by decide) ?_
          refine lv_icmp_lt (tgt := 73) hx hb dJI_numberOfLeadingZeros_63 (by decide) (fun c_63 => ?_) (fun c_63 => ?_)
          · skip
            refine lv_iload_n hx hb dJI_numberOfLeadingZeros_73 rfl (lv_at hl 1 rfl) ?_
            refine lv_iload_n hx hb dJI_numberOfLeadingZeros_74 rfl (lv_at hl 0 rfl) ?_
            refine lv_iconst (v := nI 1) hx hb dJI_numberOfLeadingZeros_75 (by decide) ?_
            refine lv_iushr (v := j_iushr (j_iushr (j_iushr i (nI 16)) (nI 8)) (nI 1)) hx hb dJI_numberOfLeadingZeros_76 rfl ?_
            refine lv_isub hx hb dJI_numberOfLeadingZeros_77 ?_
            exact ro_iret hQ hx hb hr hlocks dJI_numberOfLeadingZeros_78 (by simp [m_nlzi, m_nz, c_1, c_22, c_37, c_51, c_63])
          · skip
            refine lv_iinc (v := (((nI 31) + (-16)) + (-8)) + (-2)) (lv' := [(1, .int ((((nI 31) + (-16)) + (-8)) + (-2))), (0, .int (j_iushr (j_iushr i (nI 16)) (nI 8)))]) hx hb dJI_numberOfLeadingZeros_66 hl (k := 1) rfl rfl (by decide) rfl (fun ls hl => ?_)
            refine lv_iload_n hx hb dJI_numberOfLeadingZeros_69 rfl (lv_at hl 1 rfl) ?_
            refine lv_iconst (v := nI 2) hx hb dJI_numberOfLeadingZeros_70 (by decide) ?_
            refine lv_iushr (v := j_iushr (j_iushr (j_iushr i (nI 16)) (nI 8)) (nI 2)) hx hb dJI_numberOfLeadingZeros_71 rfl ?_
            refine lv_istore_n (lv' := [(0, .int (j_iushr (j_iushr (j_iushr i (nI 16)) (nI 8)) (nI 2))), (1, .int ((((nI 31) + (-16)) + (-8)) + (-2)))]) hx hb dJI_numberOfLeadingZeros_72 rfl hl (by decide) rfl (fun ls hl => ?_)
            refine lv_iload_n hx hb dJI_numberOfLeadingZeros_73 rfl (lv_at hl 1 rfl) ?_
            refine lv_iload_n hx hb dJI_numberOfLeadingZeros_74 rfl (lv_at hl 0 rfl) ?_
            refine lv_iconst (v := nI 1) hx hb dJI_numberOfLeadingZeros_75 (by decide) ?_
            refine lv_iushr (v := j_iushr (j_iushr (j_iushr (j_iushr i (nI 16)) (nI 8)) (nI 2)) (nI 1)) hx hb dJI_numberOfLeadingZeros_76 rfl ?_
            refine lv_isub hx hb dJI_numberOfLeadingZeros_77 ?_
            exact ro_iret hQ hx hb hr hlocks dJI_numberOfLeadingZeros_78 (by simp [m_nlzi, m_nz, c_1, c_22, c_37, c_51, c_63])
        · skip
          refine lv_iinc (v := (((nI 31) + (-16)) + (-8)) + (-4)) (lv' := [(1, .int ((((nI 31) + (-16)) + (-8)) + (-4))), (0, .int (j_iushr (j_iushr i (nI 16)) (nI 8)))]) hx hb dJI_numberOfLeadingZeros_54 hl (k := 1) rfl rfl (by decide) rfl (fun ls hl => ?_)
          refine lv_iload_n hx hb dJI_numberOfLeadingZeros_57 rfl (lv_at hl 1 rfl) ?_
          refine lv_iconst (v := nI 4) hx hb dJI_numberOfLeadingZeros_58 (by decide) ?_
          refine lv_iushr (v := j_iushr (j_iushr (j_iushr i (nI 16)) (nI 8)) (nI 4)) hx hb dJI_numberOfLeadingZeros_59 rfl ?_
          refine lv_istore_n (lv' := [(0, .int (j_iushr (j_iushr (j_iushr i (nI 16)) (nI 8)) (nI 4))), (1, .int ((((nI 31) + (-16)) + (-8)) + (-4)))]) hx hb dJI_numberOfLeadingZeros_60 rfl hl (by decide) rfl (fun ls hl => ?_)
          refine lv_iload_n hx hb dJI_numberOfLeadingZeros_61 rfl (lv_at hl 0 rfl) ?_
          refine lv_iconst (v := nI 4) hx hb dJI_numberOfLeadingZeros_62 (by decide) ?_
          refine lv_icmp_lt (tgt := 73) hx hb dJI_numberOfLeadingZeros_63 (by decide) (fun c_63 => ?_) (fun c_63 => ?_)
          · skip
            refine lv_iload_n hx hb dJI_numberOfLeadingZeros_73 rfl (lv_at hl 1 rfl) ?_
            refine lv_iload_n hx hb dJI_numberOfLeadingZeros_74 rfl (lv_at hl 0 rfl) ?_
            refine lv_iconst (v := nI 1) hx hb dJI_numberOfLeadingZeros_75 (by decide) ?_
            refine lv_iushr (v := j_iushr (j_iushr (j_iushr (j_iushr i (nI 16)) (nI 8)) (nI 4)) (nI 1)) hx hb dJI_numberOfLeadingZeros_76 rfl ?_
            refine lv_isub hx hb dJI_numberOfLeadingZeros_77 ?_
            exact ro_iret hQ hx hb hr hlocks dJI_numberOfLeadingZeros_78 (by simp [m_nlzi, m_nz, c_1, c_22, c_37, c_51, c_63])
          · skip
            refine lv_iinc (v := ((((nI 31) + (-16)) + (-8)) + (-4)) + (-2)) (lv' := [(1, .int (((((nI 31) + (-16)) + (-8)) + (-4)) + (-2))), (0, .int (j_iushr (j_iushr (j_iushr i (nI 16)) (nI 8)) (nI 4)))]) hx hb dJI_numberOfLeadingZeros_66 hl (k := 1) rfl rfl (by decide) rfl (fun ls hl => ?_)
            refine lv_iload_n hx hb dJI_numberOfLeadingZeros_69 rfl (lv_at hl 1 rfl) ?_
            refine lv_iconst (v := nI 2) hx hb dJI_numberOfLeadingZeros_70 (by decide) ?_
            refine lv_iushr (v := j_iushr (j_iushr (j_iushr (j_iushr i (nI 16)) (nI 8)) (nI 4)) (nI 2)) hx hb dJI_numberOfLeadingZeros_71 rfl ?_
            refine lv_istore_n (lv' := [(0, .int (j_iushr (j_iushr (j_iushr (j_iushr i (nI 16)) (nI 8)) (nI 4)) (nI 2))), (1, .int (((((nI 31) + (-16)) + (-8)) + (-4)) + (-2)))]) hx hb dJI_numberOfLeadingZeros_72 rfl hl (by decide) rfl (fun ls hl => ?_)
            refine lv_iload_n hx hb dJI_numberOfLeadingZeros_73 rfl (lv_at hl 1 rfl) ?_
            refine lv_iload_n hx hb dJI_numberOfLeadingZeros_74 rfl (lv_at hl 0 rfl) ?_
            refine lv_iconst (v := nI 1) hx hb dJI_numberOfLeadingZeros_75 (by decide) ?_
            refine lv_iushr (v := j_iushr (j_iushr (j_iushr (j_iushr (j_iushr i (nI 16)) (nI 8)) (nI 4)) (nI 2)) (nI 1)) hx hb dJI_numberOfLeadingZeros_76 rfl ?_
            refine lv_isub hx hb dJI_numberOfLeadingZeros_77 ?_
            exact ro_iret hQ hx hb hr hlocks dJI_numberOfLeadingZeros_78 (by simp [m_nlzi, m_nz, c_1, c_22, c_37, c_51, c_63])
  · skip
    refine lv_iload_n hx hb dJI_numberOfLeadingZeros_4 rfl (lv_at hl 0 rfl) ?_
    refine lv_if_ne (tgt := 13) hx hb dJI_numberOfLeadingZeros_5 (by decide) (fun c_5 => ?_) (fun c_5 => ?_)
    · skip
      refine lv_iconst (v := nI 0) hx hb dJI_numberOfLeadingZeros_13 (by decide) ?_
      exact ro_iret hQ hx hb hr hlocks dJI_numberOfLeadingZeros_14 (by simp [m_nlzi, m_nz, c_1, c_5])
    · skip
      refine lv_bipush (v := nI 32) hx hb dJI_numberOfLeadingZeros_8 (by decide) ?_
      refine lv_goto (tgt := 14) hx hb dJI_numberOfLeadingZeros_10 (by decide) ?_
      exact ro_iret hQ hx hb hr hlocks dJI_numberOfLeadingZeros_14 (by simp [m_nlzi, m_nz, c_1, c_5])

abbrev rm_c_J_nlz : Room := { frames := 1, cells := 0, slots := 0, locals := 21 }
set_option maxRecDepth 100000 in
set_option maxHeartbeats 4000000 in
theorem c_J_nlz (l : Launch) (D : va_G) (cI cJ cZ : ClassId) (x : Int64)  : ro_C l yJL_numberOfLeadingZeros wJL_numberOfLeadingZeros rm_c_J_nlz D vwCl (gT cI cJ cZ) [.long x] [] (some (.int (m_nlz x))) := by
  refine ro_of (cc := cJL_numberOfLeadingZeros) (maxL := 3) (ret := some .int) (by decide) rfl (Nat.le_of_ble_eq_true rfl) ?_
  intro p e s m args below meth c Q ls hx hb hr hml hown hts hlocks hK hP hl hQ
  have hl : lv_has ls 3 [(0, .long x)] := hl
  have hown : s.vm.findClass RJL = some m.cls := hown
  refine lv_lload_n hx hb dJL_numberOfLeadingZeros_0 rfl (lv_at hl 0 rfl) ?_
  refine lv_bipush (v := nI 32) hx hb dJL_numberOfLeadingZeros_1 (by decide) ?_
  refine lv_lushr (v := j_ushr x (nI 32)) hx hb dJL_numberOfLeadingZeros_3 rfl ?_
  refine lv_l2i (v := (j_ushr x (nI 32)).toInt32) hx hb dJL_numberOfLeadingZeros_4 rfl ?_
  refine lv_istore_n (lv' := [(2, .int ((j_ushr x (nI 32)).toInt32)), (0, .long x)]) hx hb dJL_numberOfLeadingZeros_5 rfl hl (by decide) rfl (fun ls hl => ?_)
  refine lv_iload_n hx hb dJL_numberOfLeadingZeros_6 rfl (lv_at hl 0 rfl) ?_
  refine lv_if_ne (tgt := 21) hx hb dJL_numberOfLeadingZeros_7 (by decide) (fun c_7 => ?_) (fun c_7 => ?_)
  · skip
    refine lv_iload_n hx hb dJL_numberOfLeadingZeros_21 rfl (lv_at hl 0 rfl) ?_
    refine ro_ki (va_runS (As := [.int ((j_ushr x (nI 32)).toInt32)]) (rest := []) ⟨hx, hb, hml, hown, hts⟩ (c_J_nlzi l D cI cJ cZ ((j_ushr x (nI 32)).toInt32)) (va_cwS 1 hts gJL_numberOfLeadingZeros_JI_numberOfLeadingZeros_308 rfl rfl rfl (by decide +kernel) ⟨Nat.le_of_ble_eq_true rfl, Nat.le_of_ble_eq_true rfl⟩) (ro_preS (hP.sub [] rfl) hK) rfl rfl hl.1 rfl (lv_room (Nat.le_of_ble_eq_true rfl)) dJL_numberOfLeadingZeros_22 ⟨Nat.le_of_ble_eq_true rfl, Nat.le_of_ble_eq_true rfl⟩) ?_
    exact ro_iret hQ hx hb hr hlocks dJL_numberOfLeadingZeros_25 (by simp [m_nlz, c_7])
  · skip
    refine lv_bipush (v := nI 32) hx hb dJL_numberOfLeadingZeros_10 (by decide) ?_
    refine lv_lload_n hx hb dJL_numberOfLeadingZeros_12 rfl (lv_at hl 1 rfl) ?_
    refine lv_l2i (v := x.toInt32) hx hb dJL_numberOfLeadingZeros_13 rfl ?_
    refine ro_ki (va_runS (As := [.int x.toInt32]) (rest := [.int (nI 32)]) ⟨hx, hb, hml, hown, hts⟩ (c_J_nlzi l D cI cJ cZ x.toInt32) (va_cwS 1 hts gJL_numberOfLeadingZeros_JI_numberOfLeadingZeros_308 rfl rfl rfl (by decide +kernel) ⟨Nat.le_of_ble_eq_true rfl, Nat.le_of_ble_eq_true rfl⟩) (ro_preS (hP.sub [] rfl) hK) rfl rfl hl.1 rfl (lv_room (Nat.le_of_ble_eq_true rfl)) dJL_numberOfLeadingZeros_14 ⟨Nat.le_of_ble_eq_true rfl, Nat.le_of_ble_eq_true rfl⟩) ?_
    refine lv_iadd hx hb dJL_numberOfLeadingZeros_17 ?_
    refine lv_goto (tgt := 25) hx hb dJL_numberOfLeadingZeros_18 (by decide) ?_
    exact ro_iret hQ hx hb hr hlocks dJL_numberOfLeadingZeros_25 (by simp [m_nlz, c_7])

abbrev rm_c_J_fill : Room := { frames := 0, cells := 0, slots := 0, locals := 0 }
set_option maxRecDepth 100000 in
set_option maxHeartbeats 4000000 in
theorem c_J_fill (l : Launch) (D : va_G) (cI cJ cZ : ClassId) (a : Nat) (N : Nat) (f : Nat → Int64) (v : Int64) (hN : N < 2 ^ 31) : rw_C l yJA_fill wJA_fill rm_c_J_fill D vwCl (gT cI cJ cZ) [.ref a, .long v] [(a, .inl (cJ, N, .inr (.inl f)))] (fun v9 w9 => v9 = none ∧ w9 = [(a, .inl (cJ, N, .inr (.inl (m_fill f N v))))]) 0 0 := by
  refine rw_of (cc := cJA_fill) (maxL := 5) (ret := none) (by decide) rfl (Nat.le_of_ble_eq_true rfl) ?_
  intro p e s m args below meth c Q A ls hx hb hr hml hown hts hlocks hin hK hP hD hA hl hQ
  have hS : va_S A s.heap s.heap [] := va_S.rf
  have hl : lv_has ls 5 [(0, .ref a), (1, .long v)] := hl
  have hown : s.vm.findClass RJA = some m.cls := hown
  obtain ⟨H, hHe⟩ : ∃ H : Heap, H = s.heap := ⟨_, rfl⟩
  rw [← hHe] at hP
  have hS : va_S A s.heap H [] := by rw [hHe]; exact va_S.rf
  suffices h9 : W p l e rm_c_J_fill s m args below meth c H [] 0 0 Q (F0 m 0 ls []) by rw [hHe] at h9; exact h9
  clear hHe
  refine lv_iconst (v := nI 0) hx hb dJA_fill_0 (by decide) ?_
  refine lv_istore_n (lv' := [(3, .int (nI 0)), (0, .ref a), (1, .long v)]) hx hb dJA_fill_1 rfl hl (by decide) rfl (fun ls hl => ?_)
  refine lv_aload_n hx hb dJA_fill_2 rfl (lv_at hl 1 rfl) ?_
  refine va_alen (v := nI N) hx hb hK hP 0 1 rfl rfl rfl dJA_fill_3 ?_
  refine lv_istore (lv' := [(4, .int (nI N)), (3, .int (nI 0)), (0, .ref a), (1, .long v)]) hx hb dJA_fill_4 hl (by decide) rfl (fun ls hl => ?_)
  have e_w4 : f = m_fill f 0 v := (m_fill_0 f v).symm
  rw [e_w4] at hP hD
  have lp_6 : ∀ (n_6 : Nat) (d i : Nat), (d < n_6) → (i + d = N) → ∀ (H : Heap) (locs : List Loc), va_P D vwCl [(a, .inl (cJ, N, .inr (.inl (m_fill f i v))))] H → va_D A [(a, .inl (cJ, N, .inr (.inl (m_fill f i v))))] → va_S A s.heap H locs → ∀ (ls : Array Slot), lv_has ls 5 [(0, .ref a), (1, .long v), (3, .int (nI i)), (4, .int (nI N))] → W p l e rm_c_J_fill s m args below meth c H locs 0 0 Q (F0 m 6 ls []) := by
    intro n_6
    induction n_6 with
    | zero => intro d i hn hd H locs hP hD hS ls hl; exact absurd hn (by omega)
    | succ n_6 ih_6 =>
      intro d i hn hd H locs hP hD hS ls hl
      refine lv_iload_n hx hb dJA_fill_6 rfl (lv_at hl 2 rfl) ?_
      refine lv_iload hx hb dJA_fill_7 (lv_at hl 3 rfl) ?_
      refine lv_icmp_ge (tgt := 22) hx hb dJA_fill_9 (by decide) (fun c_9 => ?_) (fun c_9 => ?_)
      · skip
        have c_9 : N ≤ i := n_le c_9 (by omega) (by omega)
        exact rw_vret (w := [(a, .inl (cJ, N, .inr (.inl (m_fill f i v))))]) hQ hx hb hr hlocks dJA_fill_22 (hP.sub [0] rfl) (hD.sub [0] (by decide) rfl) hS ⟨rfl, by rw [show i = N by omega]⟩
      · skip
        have c_9 : i < N := n_nle c_9 (by omega) (by omega)
        obtain ⟨d, rfl⟩ : ∃ d' : Nat, d = d' + 1 := ⟨d - 1, by omega⟩
        refine lv_aload_n hx hb dJA_fill_12 rfl (lv_at hl 0 rfl) ?_
        refine lv_iload_n hx hb dJA_fill_13 rfl (lv_at hl 2 rfl) ?_
        refine lv_lload_n hx hb dJA_fill_14 rfl (lv_at hl 1 rfl) ?_
        refine ar_lst (j := i) hx hb hK hP hD hS 0 1 rfl rfl dJA_fill_15 (by omega) (by omega) (fun H locs hP hD hS => ?_)
        have hP : va_P D vwCl [(a, .inl (cJ, N, .inr (.inl (vp_updL (m_fill f i v) i v))))] H := hP
        have hD : va_D A [(a, .inl (cJ, N, .inr (.inl (vp_updL (m_fill f i v) i v))))] := hD
        have e_w15 : vp_updL (m_fill f i v) i v = m_fill f (i + 1) v := m_fill_s f v i
        rw [e_w15] at hP hD
        refine lv_iinc (v := nI (i + 1)) (lv' := [(3, .int (nI (i + 1))), (0, .ref a), (1, .long v), (4, .int (nI N))]) hx hb dJA_fill_16 hl (k := 2) rfl (nI_add _ 1) (by decide) rfl (fun ls hl => ?_)
        refine lv_goto (tgt := 6) hx hb dJA_fill_19 (by decide) ?_
        exact ih_6 d (i + 1) (by omega) (by omega) _ _ (hP.sub [0] rfl) (hD.sub [0] (by decide) rfl) hS ls (lv_sub hl [1, 2, 0, 3] rfl)
  exact lp_6 (N + 1) N 0 (by omega) (by omega) _ _ (hP.sub [0] rfl) (hD.sub [0] (by decide) rfl) hS ls (lv_sub hl [2, 3, 1, 0] rfl)

abbrev rm_c_B_shiftOf : Room := { frames := 0, cells := 0, slots := 0, locals := 0 }
set_option maxRecDepth 100000 in
set_option maxHeartbeats 4000000 in
theorem c_B_shiftOf (l : Launch) (D : va_G) (cI cJ cZ : ClassId) (b : Int64)  : ro_C l yB_shiftOf wB_shiftOf rm_c_B_shiftOf D vwCl (gT cI cJ cZ) [.long b] [] (some (.int (m_shift b))) := by
  refine ro_of (cc := cB_shiftOf) (maxL := 2) (ret := some .int) (by decide) rfl (Nat.le_of_ble_eq_true rfl) ?_
  intro p e s m args below meth c Q ls hx hb hr hml hown hts hlocks hK hP hl hQ
  have hl : lv_has ls 2 [(0, .long b)] := hl
  have hown : s.vm.findClass RB = some m.cls := hown
  refine lv_bipush (v := nI 8) hx hb dB_shiftOf_0 (by decide) ?_
  refine lv_lload_n hx hb dB_shiftOf_2 rfl (lv_at hl 0 rfl) ?_
  refine lv_bipush (v := nI 24) hx hb dB_shiftOf_3 (by decide) ?_
  refine lv_lushr (v := j_ushr b (nI 24)) hx hb dB_shiftOf_5 rfl ?_
  refine lv_l2i (v := (j_ushr b (nI 24)).toInt32) hx hb dB_shiftOf_6 rfl ?_
  refine lv_iconst (v := nI 3) hx hb dB_shiftOf_7 (by decide) ?_
  refine lv_isub hx hb dB_shiftOf_8 ?_
  refine lv_imul hx hb dB_shiftOf_9 ?_
  exact ro_iret hQ hx hb hr hlocks dB_shiftOf_10 rfl

abbrev rm_c_B_join : Room := { frames := 0, cells := 0, slots := 0, locals := 0 }
set_option maxRecDepth 100000 in
set_option maxHeartbeats 4000000 in
theorem c_B_join (l : Launch) (D : va_G) (cI cJ cZ : ClassId) (x : Int64) (y : Int64)  : ro_C l yB_join wB_join rm_c_B_join D vwCl (gT cI cJ cZ) [.long x, .long y] [] (some (.long (m_join x y))) := by
  refine ro_of (cc := cB_join) (maxL := 4) (ret := some .long) (by decide) rfl (Nat.le_of_ble_eq_true rfl) ?_
  intro p e s m args below meth c Q ls hx hb hr hml hown hts hlocks hK hP hl hQ
  have hl : lv_has ls 4 [(0, .long x), (2, .long y)] := hl
  have hown : s.vm.findClass RB = some m.cls := hown
  refine lv_lload_n hx hb dB_join_0 rfl (lv_at hl 0 rfl) ?_
  refine lv_bipush (v := nI 32) hx hb dB_join_1 (by decide) ?_
  refine lv_lshl (v := j_shl x (nI 32)) hx hb dB_join_3 rfl ?_
  refine lv_lload_n hx hb dB_join_4 rfl (lv_at hl 1 rfl) ?_
  refine lv_lor hx hb dB_join_5 ?_
  exact ro_lret hQ hx hb hr hlocks dB_join_6 rfl

abbrev rm_c_B_byteAt : Room := { frames := 0, cells := 0, slots := 0, locals := 0 }
set_option maxRecDepth 100000 in
set_option maxHeartbeats 4000000 in
theorem c_B_byteAt (l : Launch) (D : va_G) (cI cJ cZ : ClassId) (a : Int64) (b : Int64) (c0 : Int64) (d : Int64) (k : Int32)  : ro_C l yB_byteAt wB_byteAt rm_c_B_byteAt D vwCl (gT cI cJ cZ) [.long a, .long b, .long c0, .long d, .int k] [] (some (.long (m_byte a b c0 d k))) := by
  refine ro_of (cc := cB_byteAt) (maxL := 11) (ret := some .long) (by decide) rfl (Nat.le_of_ble_eq_true rfl) ?_
  intro p e s m args below meth c Q ls hx hb hr hml hown hts hlocks hK hP hl hQ
  have hl : lv_has ls 11 [(0, .long a), (2, .long b), (4, .long c0), (6, .long d), (8, .int k)] := hl
  have hown : s.vm.findClass RB = some m.cls := hown
  refine lv_iload hx hb dB_byteAt_0 (lv_at hl 4 rfl) ?_
  refine lv_if_ge (tgt := 7) hx hb dB_byteAt_2 (by decide) (fun c_2 => ?_) (fun c_2 => ?_)
  · skip
    refine lv_iload hx hb dB_byteAt_7 (lv_at hl 4 rfl) ?_
    refine lv_bipush (v := nI 8) hx hb dB_byteAt_9 (by decide) ?_
    refine lv_icmp_ge (tgt := 19) hx hb dB_byteAt_11 (by decide) (fun c_11 => ?_) (fun c_11 => ?_)
    · skip
      refine lv_iload hx hb dB_byteAt_19 (lv_at hl 4 rfl) ?_
      refine lv_bipush (v := nI 16) hx hb dB_byteAt_21 (by decide) ?_
      refine lv_icmp_ge (tgt := 31) hx hb dB_byteAt_23 (by decide) (fun c_23 => ?_) (fun c_23 => ?_)
      · skip
        refine lv_iload hx hb dB_byteAt_31 (lv_at hl 4 rfl) ?_
        refine lv_bipush (v := nI 24) hx hb dB_byteAt_33 (by decide) ?_
        refine lv_icmp_ge (tgt := 42) hx hb dB_byteAt_35 (by decide) (fun c_35 => ?_) (fun c_35 => ?_)
        · skip
          refine lv_lload_n hx hb dB_byteAt_42 rfl (lv_at hl 0 rfl) ?_
          refine lv_lstore (lv' := [(9, .long a), (0, .long a), (2, .long b), (4, .long c0), (6, .long d), (8, .int k)]) hx hb dB_byteAt_43 hl (by decide) rfl (fun ls hl => ?_)
          refine lv_lload hx hb dB_byteAt_45 (lv_at hl 0 rfl) ?_
          refine lv_bipush (v := nI 8) hx hb dB_byteAt_47 (by decide) ?_
          refine lv_iload hx hb dB_byteAt_49 (lv_at hl 5 rfl) ?_
          refine lv_bipush (v := nI 8) hx hb dB_byteAt_51 (by decide) ?_
          refine lv_irem hx hb dB_byteAt_53 (by decide) ?_
          refine lv_imul hx hb dB_byteAt_54 ?_
          refine lv_lushr (v := j_ushr a ((nI 8) * (k - k / (nI 8) * (nI 8)))) hx hb dB_byteAt_55 rfl ?_
          refine lv_ldc2 (v := 255) hx hb hown (hts (.constantLong RB 37 255) (by decide +kernel)) dB_byteAt_56 ?_
          refine lv_land hx hb dB_byteAt_59 ?_
          exact ro_lret hQ hx hb hr hlocks dB_byteAt_60 (by simp [m_byte, c_2, c_11, c_23, c_35])
        · skip
          refine lv_lload_n hx hb dB_byteAt_38 rfl (lv_at hl 1 rfl) ?_
          refine lv_goto (tgt := 43) hx hb dB_byteAt_39 (by decide) ?_
          refine lv_lstore (lv' := [(9, .long b), (0, .long a), (2, .long b), (4, .long c0), (6, .long d), (8, .int k)]) hx hb dB_byteAt_43 hl (by decide) rfl (fun ls hl => ?_)
          refine lv_lload hx hb dB_byteAt_45 (lv_at hl 0 rfl) ?_
          refine lv_bipush (v := nI 8) hx hb dB_byteAt_47 (by decide) ?_
          refine lv_iload hx hb dB_byteAt_49 (lv_at hl 5 rfl) ?_
          refine lv_bipush (v := nI 8) hx hb dB_byteAt_51 (by decide) ?_
          refine lv_irem hx hb dB_byteAt_53 (by decide) ?_
          refine lv_imul hx hb dB_byteAt_54 ?_
          refine lv_lushr (v := j_ushr b ((nI 8) * (k - k / (nI 8) * (nI 8)))) hx hb dB_byteAt_55 rfl ?_
          refine lv_ldc2 (v := 255) hx hb hown (hts (.constantLong RB 37 255) (by decide +kernel)) dB_byteAt_56 ?_
          refine lv_land hx hb dB_byteAt_59 ?_
          exact ro_lret hQ hx hb hr hlocks dB_byteAt_60 (by simp [m_byte, c_2, c_11, c_23, c_35])
      · skip
        refine lv_lload hx hb dB_byteAt_26 (lv_at hl 2 rfl) ?_
        refine lv_goto (tgt := 43) hx hb dB_byteAt_28 (by decide) ?_
        refine lv_lstore (lv' := [(9, .long c0), (0, .long a), (2, .long b), (4, .long c0), (6, .long d), (8, .int k)]) hx hb dB_byteAt_43 hl (by decide) rfl (fun ls hl => ?_)
        refine lv_lload hx hb dB_byteAt_45 (lv_at hl 0 rfl) ?_
        refine lv_bipush (v := nI 8) hx hb dB_byteAt_47 (by decide) ?_
        refine lv_iload hx hb dB_byteAt_49 (lv_at hl 5 rfl) ?_
        refine lv_bipush (v := nI 8) hx hb dB_byteAt_51 (by decide) ?_
        refine lv_irem hx hb dB_byteAt_53 (by decide) ?_
        refine lv_imul hx hb dB_byteAt_54 ?_
        refine lv_lushr (v := j_ushr c0 ((nI 8) * (k - k / (nI 8) * (nI 8)))) hx hb dB_byteAt_55 rfl ?_
        refine lv_ldc2 (v := 255) hx hb hown (hts (.constantLong RB 37 255) (by decide +kernel)) dB_byteAt_56 ?_
        refine lv_land hx hb dB_byteAt_59 ?_
        exact ro_lret hQ hx hb hr hlocks dB_byteAt_60 (by simp [m_byte, c_2, c_11, c_23])
    · skip
      refine lv_lload hx hb dB_byteAt_14 (lv_at hl 3 rfl) ?_
      refine lv_goto (tgt := 43) hx hb dB_byteAt_16 (by decide) ?_
      refine lv_lstore (lv' := [(9, .long d), (0, .long a), (2, .long b), (4, .long c0), (6, .long d), (8, .int k)]) hx hb dB_byteAt_43 hl (by decide) rfl (fun ls hl => ?_)
      refine lv_lload hx hb dB_byteAt_45 (lv_at hl 0 rfl) ?_
      refine lv_bipush (v := nI 8) hx hb dB_byteAt_47 (by decide) ?_
      refine lv_iload hx hb dB_byteAt_49 (lv_at hl 5 rfl) ?_
      refine lv_bipush (v := nI 8) hx hb dB_byteAt_51 (by decide) ?_
      refine lv_irem hx hb dB_byteAt_53 (by decide) ?_
      refine lv_imul hx hb dB_byteAt_54 ?_
      refine lv_lushr (v := j_ushr d ((nI 8) * (k - k / (nI 8) * (nI 8)))) hx hb dB_byteAt_55 rfl ?_
      refine lv_ldc2 (v := 255) hx hb hown (hts (.constantLong RB 37 255) (by decide +kernel)) dB_byteAt_56 ?_
      refine lv_land hx hb dB_byteAt_59 ?_
      exact ro_lret hQ hx hb hr hlocks dB_byteAt_60 (by simp [m_byte, c_2, c_11])
  · skip
    refine lv_lconst (v := 0) hx hb dB_byteAt_5 (by decide) ?_
    exact ro_lret hQ hx hb hr hlocks dB_byteAt_6 (by simp [m_byte, c_2])

abbrev rm_c_B_lengthOf : Room := { frames := 2, cells := 0, slots := 0, locals := 43 }
set_option maxRecDepth 100000 in
set_option maxHeartbeats 4000000 in
theorem c_B_lengthOf (l : Launch) (D : va_G) (cI cJ cZ : ClassId) (x : Int64)  : ro_C l yB_lengthOf wB_lengthOf rm_c_B_lengthOf D vwCl (gT cI cJ cZ) [.long x] [] (some (.int (m_len x))) := by
  refine ro_of (cc := cB_lengthOf) (maxL := 2) (ret := some .int) (by decide) rfl (Nat.le_of_ble_eq_true rfl) ?_
  intro p e s m args below meth c Q ls hx hb hr hml hown hts hlocks hK hP hl hQ
  have hl : lv_has ls 2 [(0, .long x)] := hl
  have hown : s.vm.findClass RB = some m.cls := hown
  refine lv_bipush (v := nI 64) hx hb dB_lengthOf_0 (by decide) ?_
  refine lv_lload_n hx hb dB_lengthOf_2 rfl (lv_at hl 0 rfl) ?_
  refine ro_ki (va_runS (As := [.long x]) (rest := [.int (nI 64)]) ⟨hx, hb, hml, hown, hts⟩ (c_J_nlz l D cI cJ cZ x) (va_cwS 1 hts gB_lengthOf_JL_numberOfLeadingZeros_28 rfl rfl rfl (by decide +kernel) ⟨Nat.le_of_ble_eq_true rfl, Nat.le_of_ble_eq_true rfl⟩) (ro_preS (hP.sub [] rfl) hK) rfl rfl hl.1 rfl (lv_room (Nat.le_of_ble_eq_true rfl)) dB_lengthOf_3 ⟨Nat.le_of_ble_eq_true rfl, Nat.le_of_ble_eq_true rfl⟩) ?_
  refine lv_isub hx hb dB_lengthOf_6 ?_
  exact ro_iret hQ hx hb hr hlocks dB_lengthOf_7 rfl

abbrev rm_c_B_targetPart : Room := { frames := 1, cells := 0, slots := 0, locals := 21 }
set_option maxRecDepth 100000 in
set_option maxHeartbeats 4000000 in
theorem c_B_targetPart (l : Launch) (D : va_G) (cI cJ cZ : ClassId) (b : Int64) (k : Int32)  : ro_C l yB_targetPart wB_targetPart rm_c_B_targetPart D vwCl (gT cI cJ cZ) [.long b, .int k] [] (some (.long (m_tp b k))) := by
  refine ro_of (cc := cB_targetPart) (maxL := 6) (ret := some .long) (by decide) rfl (Nat.le_of_ble_eq_true rfl) ?_
  intro p e s m args below meth c Q ls hx hb hr hml hown hts hlocks hK hP hl hQ
  have hl : lv_has ls 6 [(0, .long b), (2, .int k)] := hl
  have hown : s.vm.findClass RB = some m.cls := hown
  refine lv_lload_n hx hb dB_targetPart_0 rfl (lv_at hl 0 rfl) ?_
  refine lv_ldc2 (v := 8388607) hx hb hown (hts (.constantLong RB 11 8388607) (by decide +kernel)) dB_targetPart_1 ?_
  refine lv_land hx hb dB_targetPart_4 ?_
  refine lv_lstore_n (lv' := [(3, .long (b &&& 8388607)), (0, .long b), (2, .int k)]) hx hb dB_targetPart_5 rfl hl (by decide) rfl (fun ls hl => ?_)
  refine lv_lload_n hx hb dB_targetPart_6 rfl (lv_at hl 1 rfl) ?_
  refine ro_ki (va_runS (As := [.long b]) (rest := []) ⟨hx, hb, hml, hown, hts⟩ (c_B_shiftOf l D cI cJ cZ b) (va_cwS 1 hts gB_targetPart_B_shiftOf_15 rfl rfl rfl (by decide +kernel) ⟨Nat.le_of_ble_eq_true rfl, Nat.le_of_ble_eq_true rfl⟩) (ro_preS (hP.sub [] rfl) hK) rfl rfl hl.1 rfl (lv_room (Nat.le_of_ble_eq_true rfl)) dB_targetPart_7 ⟨Nat.le_of_ble_eq_true rfl, Nat.le_of_ble_eq_true rfl⟩) ?_
  refine lv_bipush (v := nI 64) hx hb dB_targetPart_10 (by decide) ?_
  refine lv_iconst (v := nI 3) hx hb dB_targetPart_12 (by decide) ?_
  refine lv_iload_n hx hb dB_targetPart_13 rfl (lv_at hl 2 rfl) ?_
  refine lv_isub hx hb dB_targetPart_14 ?_
  refine lv_imul hx hb dB_targetPart_15 ?_
  refine lv_isub hx hb dB_targetPart_16 ?_
  refine lv_istore (lv' := [(5, .int ((m_shift b) - ((nI 64) * ((nI 3) - k)))), (3, .long (b &&& 8388607)), (0, .long b), (2, .int k)]) hx hb dB_targetPart_17 hl (by decide) rfl (fun ls hl => ?_)
  refine lv_iload hx hb dB_targetPart_19 (lv_at hl 0 rfl) ?_
  refine lv_bipush (v := nI 64) hx hb dB_targetPart_21 (by decide) ?_
  refine lv_icmp_ge (tgt := 33) hx hb dB_targetPart_23 (by decide) (fun c_23 => ?_) (fun c_23 => ?_)
  · skip
    refine lv_lconst (v := 0) hx hb dB_targetPart_33 (by decide) ?_
    exact ro_lret hQ hx hb hr hlocks dB_targetPart_34 (by simp [m_tp, c_23])
  · skip
    refine lv_iload hx hb dB_targetPart_26 (lv_at hl 0 rfl) ?_
    refine lv_bipush (v := (-64)) hx hb dB_targetPart_28 (by decide) ?_
    refine lv_icmp_gt (tgt := 35) hx hb dB_targetPart_30 (by decide) (fun c_30 => ?_) (fun c_30 => ?_)
    · skip
      refine lv_iload hx hb dB_targetPart_35 (lv_at hl 0 rfl) ?_
      refine lv_if_lt (tgt := 47) hx hb dB_targetPart_37 (by decide) (fun c_37 => ?_) (fun c_37 => ?_)
      · skip
        refine lv_lload_n hx hb dB_targetPart_47 rfl (lv_at hl 1 rfl) ?_
        refine lv_iload hx hb dB_targetPart_48 (lv_at hl 0 rfl) ?_
        refine lv_ineg hx hb dB_targetPart_50 ?_
        refine lv_lushr (v := j_ushr (b &&& 8388607) (-((m_shift b) - ((nI 64) * ((nI 3) - k))))) hx hb dB_targetPart_51 rfl ?_
        exact ro_lret hQ hx hb hr hlocks dB_targetPart_52 (by simp [m_tp, c_23, c_30, c_37])
      · skip
        refine lv_lload_n hx hb dB_targetPart_40 rfl (lv_at hl 1 rfl) ?_
        refine lv_iload hx hb dB_targetPart_41 (lv_at hl 0 rfl) ?_
        refine lv_lshl (v := j_shl (b &&& 8388607) ((m_shift b) - ((nI 64) * ((nI 3) - k)))) hx hb dB_targetPart_43 rfl ?_
        refine lv_goto (tgt := 52) hx hb dB_targetPart_44 (by decide) ?_
        exact ro_lret hQ hx hb hr hlocks dB_targetPart_52 (by simp [m_tp, c_23, c_30, c_37])
    · skip
      refine lv_lconst (v := 0) hx hb dB_targetPart_33 (by decide) ?_
      exact ro_lret hQ hx hb hr hlocks dB_targetPart_34 (by simp [m_tp, c_23, c_30])

abbrev rm_c_B_targetHalf : Room := { frames := 2, cells := 0, slots := 0, locals := 46 }
set_option maxRecDepth 100000 in
set_option maxHeartbeats 4000000 in
theorem c_B_targetHalf (l : Launch) (D : va_G) (cI cJ cZ : ClassId) (b : Int64) (i : Nat) (hi : i < 8) : ro_C l yB_targetHalf wB_targetHalf rm_c_B_targetHalf D vwCl (gT cI cJ cZ) [.long b, .int (nI i)] [] (some (.long (m_th b i))) := by
  refine ro_of (cc := cB_targetHalf) (maxL := 5) (ret := some .long) (by decide) rfl (Nat.le_of_ble_eq_true rfl) ?_
  intro p e s m args below meth c Q ls hx hb hr hml hown hts hlocks hK hP hl hQ
  have hl : lv_has ls 5 [(0, .long b), (2, .int (nI i))] := hl
  have hown : s.vm.findClass RB = some m.cls := hown
  refine lv_lload_n hx hb dB_targetHalf_0 rfl (lv_at hl 0 rfl) ?_
  refine lv_iload_n hx hb dB_targetHalf_1 rfl (lv_at hl 1 rfl) ?_
  refine lv_iconst (v := nI 2) hx hb dB_targetHalf_2 (by decide) ?_
  refine lv_idiv hx hb dB_targetHalf_3 (nI_ne0 (by omega) (by omega)) ?_
  refine tp_i (y := nI (i / 2)) (pk_div (by omega) (by omega) (by omega)) ?_
  refine ro_kl (va_runS (As := [.long b, .int (nI (i / 2))]) (rest := []) ⟨hx, hb, hml, hown, hts⟩ (c_B_targetPart l D cI cJ cZ b (nI (i / 2))) (va_cwS 2 hts gB_targetHalf_B_targetPart_22 rfl rfl rfl (by decide +kernel) ⟨Nat.le_of_ble_eq_true rfl, Nat.le_of_ble_eq_true rfl⟩) (ro_preS (hP.sub [] rfl) hK) rfl rfl hl.1 rfl (lv_room (Nat.le_of_ble_eq_true rfl)) dB_targetHalf_4 ⟨Nat.le_of_ble_eq_true rfl, Nat.le_of_ble_eq_true rfl⟩) ?_
  refine lv_lstore_n (lv' := [(3, .long (m_tp b (nI (i / 2)))), (0, .long b), (2, .int (nI i))]) hx hb dB_targetHalf_7 rfl hl (by decide) rfl (fun ls hl => ?_)
  refine lv_iload_n hx hb dB_targetHalf_8 rfl (lv_at hl 2 rfl) ?_
  refine lv_iconst (v := nI 2) hx hb dB_targetHalf_9 (by decide) ?_
  refine lv_irem hx hb dB_targetHalf_10 (nI_ne0 (by omega) (by omega)) ?_
  refine tp_i (y := nI (i % 2)) (pk_rem (by omega) (by omega) (by omega)) ?_
  refine lv_if_ne (tgt := 21) hx hb dB_targetHalf_11 (by decide) (fun c_11 => ?_) (fun c_11 => ?_)
  · skip
    rw [← nI_0] at c_11
    have c_11 : ¬ (i % 2) = 0 := n_ne c_11
    refine lv_lload_n hx hb dB_targetHalf_21 rfl (lv_at hl 0 rfl) ?_
    refine lv_ldc2 (v := 4294967295) hx hb hown (hts (.constantLong RB 9 4294967295) (by decide +kernel)) dB_targetHalf_22 ?_
    refine lv_land hx hb dB_targetHalf_25 ?_
    exact ro_lret hQ hx hb hr hlocks dB_targetHalf_26 (by simp [m_th, c_11])
  · skip
    rw [← nI_0] at c_11
    have c_11 : (i % 2) = 0 := n_eq c_11 (by omega) (by omega)
    refine lv_lload_n hx hb dB_targetHalf_14 rfl (lv_at hl 0 rfl) ?_
    refine lv_bipush (v := nI 32) hx hb dB_targetHalf_15 (by decide) ?_
    refine lv_lushr (v := j_ushr (m_tp b (nI (i / 2))) (nI 32)) hx hb dB_targetHalf_17 rfl ?_
    refine lv_goto (tgt := 26) hx hb dB_targetHalf_18 (by decide) ?_
    exact ro_lret hQ hx hb hr hlocks dB_targetHalf_26 (by simp [m_th, c_11])

abbrev rm_c_B_faultOf : Room := { frames := 3, cells := 0, slots := 0, locals := 64 }
set_option maxRecDepth 100000 in
set_option maxHeartbeats 4000000 in
theorem c_B_faultOf (l : Launch) (D : va_G) (cI cJ cZ : ClassId) (b : Int64)  : ro_C l yB_faultOf wB_faultOf rm_c_B_faultOf D vwCl (gT cI cJ cZ) [.long b] [] (some (.int (m_fault b))) := by
  refine ro_of (cc := cB_faultOf) (maxL := 7) (ret := some .int) (by decide) rfl (Nat.le_of_ble_eq_true rfl) ?_
  intro p e s m args below meth c Q ls hx hb hr hml hown hts hlocks hK hP hl hQ
  have hl : lv_has ls 7 [(0, .long b)] := hl
  have hown : s.vm.findClass RB = some m.cls := hown
  refine lv_lload_n hx hb dB_faultOf_0 rfl (lv_at hl 0 rfl) ?_
  refine lv_lconst (v := 0) hx hb dB_faultOf_1 (by decide) ?_
  refine lc_lt (tgt := 14) hx hb dB_faultOf_2 dB_faultOf_3 (by decide) (fun c_3 => ?_) (fun c_3 => ?_)
  · skip
    refine lv_iconst (v := (-1)) hx hb dB_faultOf_14 (by decide) ?_
    exact ro_iret hQ hx hb hr hlocks dB_faultOf_15 (by simp [m_fault, c_3])
  · skip
    refine lv_lload_n hx hb dB_faultOf_6 rfl (lv_at hl 0 rfl) ?_
    refine lv_ldc2 (v := 4294967295) hx hb hown (hts (.constantLong RB 9 4294967295) (by decide +kernel)) dB_faultOf_7 ?_
    refine lc_le (tgt := 16) hx hb dB_faultOf_10 dB_faultOf_11 (by decide) (fun c_11 => ?_) (fun c_11 => ?_)
    · skip
      refine lv_lload_n hx hb dB_faultOf_16 rfl (lv_at hl 0 rfl) ?_
      refine lv_ldc2 (v := 8388607) hx hb hown (hts (.constantLong RB 11 8388607) (by decide +kernel)) dB_faultOf_17 ?_
      refine lv_land hx hb dB_faultOf_20 ?_
      refine lv_lstore_n (lv' := [(2, .long (b &&& 8388607)), (0, .long b)]) hx hb dB_faultOf_21 rfl hl (by decide) rfl (fun ls hl => ?_)
      refine lv_lload_n hx hb dB_faultOf_22 rfl (lv_at hl 1 rfl) ?_
      refine lv_ldc2 (v := 8388608) hx hb hown (hts (.constantLong RB 13 8388608) (by decide +kernel)) dB_faultOf_23 ?_
      refine lv_land hx hb dB_faultOf_26 ?_
      refine lv_lconst (v := 0) hx hb dB_faultOf_27 (by decide) ?_
      refine lc_eq (tgt := 40) hx hb dB_faultOf_28 dB_faultOf_29 (by decide) (fun c_29 => ?_) (fun c_29 => ?_)
      · skip
        refine lv_lload_n hx hb dB_faultOf_40 rfl (lv_at hl 1 rfl) ?_
        refine ro_ki (va_runS (As := [.long b]) (rest := []) ⟨hx, hb, hml, hown, hts⟩ (c_B_shiftOf l D cI cJ cZ b) (va_cwS 1 hts gB_faultOf_B_shiftOf_15 rfl rfl rfl (by decide +kernel) ⟨Nat.le_of_ble_eq_true rfl, Nat.le_of_ble_eq_true rfl⟩) (ro_preS (hP.sub [] rfl) hK) rfl rfl hl.1 rfl (lv_room (Nat.le_of_ble_eq_true rfl)) dB_faultOf_41 ⟨Nat.le_of_ble_eq_true rfl, Nat.le_of_ble_eq_true rfl⟩) ?_
        refine lv_istore (lv' := [(4, .int (m_shift b)), (2, .long (b &&& 8388607)), (0, .long b)]) hx hb dB_faultOf_44 hl (by decide) rfl (fun ls hl => ?_)
        refine lv_lload_n hx hb dB_faultOf_46 rfl (lv_at hl 1 rfl) ?_
        refine lv_lconst (v := 0) hx hb dB_faultOf_47 (by decide) ?_
        refine lc_eq (tgt := 67) hx hb dB_faultOf_48 dB_faultOf_49 (by decide) (fun c_49 => ?_) (fun c_49 => ?_)
        · skip
          refine lv_iconst (v := nI 2) hx hb dB_faultOf_67 (by decide) ?_
          exact ro_iret hQ hx hb hr hlocks dB_faultOf_68 (by simp [m_fault, c_3, c_11, c_29, c_49])
        · skip
          refine lv_iload hx hb dB_faultOf_52 (lv_at hl 0 rfl) ?_
          refine lv_if_ge (tgt := 69) hx hb dB_faultOf_54 (by decide) (fun c_54 => ?_) (fun c_54 => ?_)
          · skip
            refine lv_iload hx hb dB_faultOf_69 (lv_at hl 0 rfl) ?_
            refine lv_lload_n hx hb dB_faultOf_71 rfl (lv_at hl 1 rfl) ?_
            refine ro_ki (va_runS (As := [.long (b &&& 8388607)]) (rest := [.int (m_shift b)]) ⟨hx, hb, hml, hown, hts⟩ (c_B_lengthOf l D cI cJ cZ (b &&& 8388607)) (va_cwS 1 hts gB_faultOf_B_lengthOf_19 rfl rfl rfl (by decide +kernel) ⟨Nat.le_of_ble_eq_true rfl, Nat.le_of_ble_eq_true rfl⟩) (ro_preS (hP.sub [] rfl) hK) rfl rfl hl.1 rfl (lv_room (Nat.le_of_ble_eq_true rfl)) dB_faultOf_72 ⟨Nat.le_of_ble_eq_true rfl, Nat.le_of_ble_eq_true rfl⟩) ?_
            refine lv_iadd hx hb dB_faultOf_75 ?_
            refine lv_sipush (v := nI 256) hx hb dB_faultOf_76 (by decide) ?_
            refine lv_icmp_le (tgt := 84) hx hb dB_faultOf_79 (by decide) (fun c_79 => ?_) (fun c_79 => ?_)
            · skip
              refine lv_lload_n hx hb dB_faultOf_84 rfl (lv_at hl 2 rfl) ?_
              refine lv_iconst (v := nI 0) hx hb dB_faultOf_85 (by decide) ?_
              refine ro_kl (va_runS (As := [.long b, .int (nI 0)]) (rest := []) ⟨hx, hb, hml, hown, hts⟩ (c_B_targetPart l D cI cJ cZ b (nI 0)) (va_cwS 2 hts gB_faultOf_B_targetPart_22 rfl rfl rfl (by decide +kernel) ⟨Nat.le_of_ble_eq_true rfl, Nat.le_of_ble_eq_true rfl⟩) (ro_preS (hP.sub [] rfl) hK) rfl rfl hl.1 rfl (lv_room (Nat.le_of_ble_eq_true rfl)) dB_faultOf_86 ⟨Nat.le_of_ble_eq_true rfl, Nat.le_of_ble_eq_true rfl⟩) ?_
              refine lv_lstore (lv' := [(5, .long (m_tp b (nI 0))), (4, .int (m_shift b)), (2, .long (b &&& 8388607)), (0, .long b)]) hx hb dB_faultOf_89 hl (by decide) rfl (fun ls hl => ?_)
              refine lv_lload hx hb dB_faultOf_91 (lv_at hl 0 rfl) ?_
              refine lv_lconst (v := 0) hx hb dB_faultOf_93 (by decide) ?_
              refine lc_lt (tgt := 107) hx hb dB_faultOf_94 dB_faultOf_95 (by decide) (fun c_95 => ?_) (fun c_95 => ?_)
              · skip
                refine lv_iconst (v := nI 4) hx hb dB_faultOf_107 (by decide) ?_
                refine lv_goto (tgt := 112) hx hb dB_faultOf_108 (by decide) ?_
                exact ro_iret hQ hx hb hr hlocks dB_faultOf_112 (by simp [m_fault, c_3, c_11, c_29, c_49, c_54, c_79, c_95])
              · skip
                refine lv_lload hx hb dB_faultOf_98 (lv_at hl 0 rfl) ?_
                refine lv_ldc2 (v := 9223370937343148032) hx hb hown (hts (.constantLong RB 26 9223370937343148032) (by decide +kernel)) dB_faultOf_100 ?_
                refine lc_le (tgt := 111) hx hb dB_faultOf_103 dB_faultOf_104 (by decide) (fun c_104 => ?_) (fun c_104 => ?_)
                · skip
                  refine lv_iconst (v := nI 0) hx hb dB_faultOf_111 (by decide) ?_
                  exact ro_iret hQ hx hb hr hlocks dB_faultOf_112 (by simp [m_fault, c_3, c_11, c_29, c_49, c_54, c_79, c_95, c_104])
                · skip
                  refine lv_iconst (v := nI 4) hx hb dB_faultOf_107 (by decide) ?_
                  refine lv_goto (tgt := 112) hx hb dB_faultOf_108 (by decide) ?_
                  exact ro_iret hQ hx hb hr hlocks dB_faultOf_112 (by simp [m_fault, c_3, c_11, c_29, c_49, c_54, c_79, c_95, c_104])
            · skip
              refine lv_iconst (v := nI 3) hx hb dB_faultOf_82 (by decide) ?_
              exact ro_iret hQ hx hb hr hlocks dB_faultOf_83 (by simp [m_fault, c_3, c_11, c_29, c_49, c_54, c_79])
          · skip
            refine lv_lload_n hx hb dB_faultOf_57 rfl (lv_at hl 1 rfl) ?_
            refine lv_iload hx hb dB_faultOf_58 (lv_at hl 0 rfl) ?_
            refine lv_ineg hx hb dB_faultOf_60 ?_
            refine lv_lushr (v := j_ushr (b &&& 8388607) (-(m_shift b))) hx hb dB_faultOf_61 rfl ?_
            refine lv_lconst (v := 0) hx hb dB_faultOf_62 (by decide) ?_
            refine lc_ne (tgt := 69) hx hb dB_faultOf_63 dB_faultOf_64 (by decide) (fun c_64 => ?_) (fun c_64 => ?_)
            · skip
              refine lv_iload hx hb dB_faultOf_69 (lv_at hl 0 rfl) ?_
              refine lv_lload_n hx hb dB_faultOf_71 rfl (lv_at hl 1 rfl) ?_
              refine ro_ki (va_runS (As := [.long (b &&& 8388607)]) (rest := [.int (m_shift b)]) ⟨hx, hb, hml, hown, hts⟩ (c_B_lengthOf l D cI cJ cZ (b &&& 8388607)) (va_cwS 1 hts gB_faultOf_B_lengthOf_19 rfl rfl rfl (by decide +kernel) ⟨Nat.le_of_ble_eq_true rfl, Nat.le_of_ble_eq_true rfl⟩) (ro_preS (hP.sub [] rfl) hK) rfl rfl hl.1 rfl (lv_room (Nat.le_of_ble_eq_true rfl)) dB_faultOf_72 ⟨Nat.le_of_ble_eq_true rfl, Nat.le_of_ble_eq_true rfl⟩) ?_
              refine lv_iadd hx hb dB_faultOf_75 ?_
              refine lv_sipush (v := nI 256) hx hb dB_faultOf_76 (by decide) ?_
              refine lv_icmp_le (tgt := 84) hx hb dB_faultOf_79 (by decide) (fun c_79 => ?_) (fun c_79 => ?_)
              · skip
                refine lv_lload_n hx hb dB_faultOf_84 rfl (lv_at hl 2 rfl) ?_
                refine lv_iconst (v := nI 0) hx hb dB_faultOf_85 (by decide) ?_
                refine ro_kl (va_runS (As := [.long b, .int (nI 0)]) (rest := []) ⟨hx, hb, hml, hown, hts⟩ (c_B_targetPart l D cI cJ cZ b (nI 0)) (va_cwS 2 hts gB_faultOf_B_targetPart_22 rfl rfl rfl (by decide +kernel) ⟨Nat.le_of_ble_eq_true rfl, Nat.le_of_ble_eq_true rfl⟩) (ro_preS (hP.sub [] rfl) hK) rfl rfl hl.1 rfl (lv_room (Nat.le_of_ble_eq_true rfl)) dB_faultOf_86 ⟨Nat.le_of_ble_eq_true rfl, Nat.le_of_ble_eq_true rfl⟩) ?_
                refine lv_lstore (lv' := [(5, .long (m_tp b (nI 0))), (4, .int (m_shift b)), (2, .long (b &&& 8388607)), (0, .long b)]) hx hb dB_faultOf_89 hl (by decide) rfl (fun ls hl => ?_)
                refine lv_lload hx hb dB_faultOf_91 (lv_at hl 0 rfl) ?_
                refine lv_lconst (v := 0) hx hb dB_faultOf_93 (by decide) ?_
                refine lc_lt (tgt := 107) hx hb dB_faultOf_94 dB_faultOf_95 (by decide) (fun c_95 => ?_) (fun c_95 => ?_)
                · skip
                  refine lv_iconst (v := nI 4) hx hb dB_faultOf_107 (by decide) ?_
                  refine lv_goto (tgt := 112) hx hb dB_faultOf_108 (by decide) ?_
                  exact ro_iret hQ hx hb hr hlocks dB_faultOf_112 (by simp [m_fault, c_3, c_11, c_29, c_49, c_54, c_64, c_79, c_95])
                · skip
                  refine lv_lload hx hb dB_faultOf_98 (lv_at hl 0 rfl) ?_
                  refine lv_ldc2 (v := 9223370937343148032) hx hb hown (hts (.constantLong RB 26 9223370937343148032) (by decide +kernel)) dB_faultOf_100 ?_
                  refine lc_le (tgt := 111) hx hb dB_faultOf_103 dB_faultOf_104 (by decide) (fun c_104 => ?_) (fun c_104 => ?_)
                  · skip
                    refine lv_iconst (v := nI 0) hx hb dB_faultOf_111 (by decide) ?_
                    exact ro_iret hQ hx hb hr hlocks dB_faultOf_112 (by simp [m_fault, c_3, c_11, c_29, c_49, c_54, c_64, c_79, c_95, c_104])
                  · skip
                    refine lv_iconst (v := nI 4) hx hb dB_faultOf_107 (by decide) ?_
                    refine lv_goto (tgt := 112) hx hb dB_faultOf_108 (by decide) ?_
                    exact ro_iret hQ hx hb hr hlocks dB_faultOf_112 (by simp [m_fault, c_3, c_11, c_29, c_49, c_54, c_64, c_79, c_95, c_104])
              · skip
                refine lv_iconst (v := nI 3) hx hb dB_faultOf_82 (by decide) ?_
                exact ro_iret hQ hx hb hr hlocks dB_faultOf_83 (by simp [m_fault, c_3, c_11, c_29, c_49, c_54, c_64, c_79])
            · skip
              refine lv_iconst (v := nI 2) hx hb dB_faultOf_67 (by decide) ?_
              exact ro_iret hQ hx hb hr hlocks dB_faultOf_68 (by simp [m_fault, c_3, c_11, c_29, c_49, c_54, c_64])
      · skip
        refine lv_lload_n hx hb dB_faultOf_32 rfl (lv_at hl 0 rfl) ?_
        refine lv_lconst (v := 0) hx hb dB_faultOf_33 (by decide) ?_
        refine lc_eq (tgt := 40) hx hb dB_faultOf_34 dB_faultOf_35 (by decide) (fun c_35 => ?_) (fun c_35 => ?_)
        · skip
          refine lv_lload_n hx hb dB_faultOf_40 rfl (lv_at hl 1 rfl) ?_
          refine ro_ki (va_runS (As := [.long b]) (rest := []) ⟨hx, hb, hml, hown, hts⟩ (c_B_shiftOf l D cI cJ cZ b) (va_cwS 1 hts gB_faultOf_B_shiftOf_15 rfl rfl rfl (by decide +kernel) ⟨Nat.le_of_ble_eq_true rfl, Nat.le_of_ble_eq_true rfl⟩) (ro_preS (hP.sub [] rfl) hK) rfl rfl hl.1 rfl (lv_room (Nat.le_of_ble_eq_true rfl)) dB_faultOf_41 ⟨Nat.le_of_ble_eq_true rfl, Nat.le_of_ble_eq_true rfl⟩) ?_
          refine lv_istore (lv' := [(4, .int (m_shift b)), (2, .long (b &&& 8388607)), (0, .long b)]) hx hb dB_faultOf_44 hl (by decide) rfl (fun ls hl => ?_)
          refine lv_lload_n hx hb dB_faultOf_46 rfl (lv_at hl 1 rfl) ?_
          refine lv_lconst (v := 0) hx hb dB_faultOf_47 (by decide) ?_
          refine lc_eq (tgt := 67) hx hb dB_faultOf_48 dB_faultOf_49 (by decide) (fun c_49 => ?_) (fun c_49 => ?_)
          · skip
            refine lv_iconst (v := nI 2) hx hb dB_faultOf_67 (by decide) ?_
            exact ro_iret hQ hx hb hr hlocks dB_faultOf_68 (by simp [m_fault, c_3, c_11, c_29, c_35, c_49])
          · skip
            exact absurd c_35 c_49
        · skip
          refine lv_iconst (v := nI 1) hx hb dB_faultOf_38 (by decide) ?_
          exact ro_iret hQ hx hb hr hlocks dB_faultOf_39 (by simp [m_fault, c_3, c_11, c_29, c_35])
    · skip
      refine lv_iconst (v := (-1)) hx hb dB_faultOf_14 (by decide) ?_
      exact ro_iret hQ hx hb hr hlocks dB_faultOf_15 (by simp [m_fault, c_3, c_11])

abbrev rm_c_B_shorten : Room := { frames := 1, cells := 0, slots := 0, locals := 30 }
set_option maxRecDepth 100000 in
set_option maxHeartbeats 4000000 in
theorem c_B_shorten (l : Launch) (D : va_G) (cI cJ cZ : ClassId) (a : Int64) (b : Int64) (c0 : Int64) (d : Int64)  : ro_C l yB_shorten wB_shorten rm_c_B_shorten D vwCl (gT cI cJ cZ) [.long a, .long b, .long c0, .long d] [] (some (.long (m_short a b c0 d))) := by
  refine ro_of (cc := cB_shorten) (maxL := 12) (ret := some .long) (by decide) rfl (Nat.le_of_ble_eq_true rfl) ?_
  intro p e s m args below meth c Q ls hx hb hr hml hown hts hlocks hK hP hl hQ
  have hl : lv_has ls 12 [(0, .long a), (2, .long b), (4, .long c0), (6, .long d)] := hl
  have hown : s.vm.findClass RB = some m.cls := hown
  refine lv_bipush (v := nI 32) hx hb dB_shorten_0 (by decide) ?_
  refine lv_istore (lv' := [(8, .int (nI 32)), (0, .long a), (2, .long b), (4, .long c0), (6, .long d)]) hx hb dB_shorten_2 hl (by decide) rfl (fun ls hl => ?_)
  have lp_4 : ∀ (n_4 : Nat) (k : Nat), (k < n_4) → (k ≤ 32) → (m_size a b c0 d k = m_size a b c0 d 32) → ∀ (ls : Array Slot), lv_has ls 12 [(0, .long a), (2, .long b), (4, .long c0), (6, .long d), (8, .int (nI k))] → W p l e rm_c_B_shorten s m args below meth c s.heap [] 0 0 Q (F0 m 4 ls []) := by
    intro n_4
    induction n_4 with
    | zero => intro k hn h32 hk ls hl; exact absurd hn (by omega)
    | succ n_4 ih_4 =>
      intro k hn h32 hk ls hl
      refine lv_iload hx hb dB_shorten_4 (lv_at hl 4 rfl) ?_
      refine lv_if_le (tgt := 33) hx hb dB_shorten_6 (by decide) (fun c_6 => ?_) (fun c_6 => ?_)
      · skip
        rw [← nI_0] at c_6
        have c_6 : k ≤ 0 := n_le c_6 (by omega) (by omega)
        have hz : m_size a b c0 d 32 = k := by rw [← hk]; exact m_size_0 (by omega)
        refine lv_lconst (v := 0) hx hb dB_shorten_33 (by decide) ?_
        refine lv_lstore (lv' := [(9, .long 0), (0, .long a), (2, .long b), (4, .long c0), (6, .long d), (8, .int (nI k))]) hx hb dB_shorten_34 hl (by decide) rfl (fun ls hl => ?_)
        refine lv_iconst (v := nI 1) hx hb dB_shorten_36 (by decide) ?_
        refine lv_istore (lv' := [(11, .int (nI 1)), (9, .long 0), (0, .long a), (2, .long b), (4, .long c0), (6, .long d), (8, .int (nI k))]) hx hb dB_shorten_37 hl (by decide) rfl (fun ls hl => ?_)
        refine lv_iload hx hb dB_shorten_39 (lv_at hl 0 rfl) ?_
        refine lv_iconst (v := nI 3) hx hb dB_shorten_41 (by decide) ?_
        refine lv_icmp_gt (tgt := 73) hx hb dB_shorten_42 (by decide) (fun c_42 => ?_) (fun c_42 => ?_)
        · skip
          have c_42 : 3 < 1 := n_lt c_42 (by omega) (by omega)
          omega
        · skip
          have c_42 : 1 ≤ 3 := n_nlt c_42 (by omega) (by omega)
          refine lv_lload hx hb dB_shorten_45 (lv_at hl 1 rfl) ?_
          refine lv_bipush (v := nI 8) hx hb dB_shorten_47 (by decide) ?_
          refine lv_lshl (v := j_shl 0 (nI 8)) hx hb dB_shorten_49 rfl ?_
          refine lv_lload_n hx hb dB_shorten_50 rfl (lv_at hl 2 rfl) ?_
          refine lv_lload_n hx hb dB_shorten_51 rfl (lv_at hl 3 rfl) ?_
          refine lv_lload hx hb dB_shorten_52 (lv_at hl 4 rfl) ?_
          refine lv_lload hx hb dB_shorten_54 (lv_at hl 5 rfl) ?_
          refine lv_iload hx hb dB_shorten_56 (lv_at hl 6 rfl) ?_
          refine lv_iload hx hb dB_shorten_58 (lv_at hl 0 rfl) ?_
          refine lv_isub hx hb dB_shorten_60 ?_
          refine ro_kl (va_runS (As := [.long a, .long b, .long c0, .long d, .int ((nI k) - (nI 1))]) (rest := [.long (j_shl 0 (nI 8))]) ⟨hx, hb, hml, hown, hts⟩ (c_B_byteAt l D cI cJ cZ a b c0 d ((nI k) - (nI 1))) (va_cwS 5 hts gB_shorten_B_byteAt_33 rfl rfl rfl (by decide +kernel) ⟨Nat.le_of_ble_eq_true rfl, Nat.le_of_ble_eq_true rfl⟩) (ro_preS (hP.sub [] rfl) hK) rfl rfl hl.1 rfl (lv_room (Nat.le_of_ble_eq_true rfl)) dB_shorten_61 ⟨Nat.le_of_ble_eq_true rfl, Nat.le_of_ble_eq_true rfl⟩) ?_
          refine lv_lor hx hb dB_shorten_64 ?_
          refine lv_lstore (lv' := [(9, .long ((j_shl 0 (nI 8)) ||| (m_byte a b c0 d ((nI k) - (nI 1))))), (11, .int (nI 1)), (0, .long a), (2, .long b), (4, .long c0), (6, .long d), (8, .int (nI k))]) hx hb dB_shorten_65 hl (by decide) rfl (fun ls hl => ?_)
          refine lv_iinc (v := nI (1 + 1)) (lv' := [(11, .int (nI (1 + 1))), (9, .long ((j_shl 0 (nI 8)) ||| (m_byte a b c0 d ((nI k) - (nI 1))))), (0, .long a), (2, .long b), (4, .long c0), (6, .long d), (8, .int (nI k))]) hx hb dB_shorten_67 hl (k := 1) rfl (nI_add _ 1) (by decide) rfl (fun ls hl => ?_)
          refine lv_goto (tgt := 39) hx hb dB_shorten_70 (by decide) ?_
          refine lv_iload hx hb dB_shorten_39 (lv_at hl 0 rfl) ?_
          refine lv_iconst (v := nI 3) hx hb dB_shorten_41 (by decide) ?_
          refine lv_icmp_gt (tgt := 73) hx hb dB_shorten_42 (by decide) (fun c_42 => ?_) (fun c_42 => ?_)
          · skip
            have c_42 : 3 < (1 + 1) := n_lt c_42 (by omega) (by omega)
            omega
          · skip
            have c_42 : (1 + 1) ≤ 3 := n_nlt c_42 (by omega) (by omega)
            refine lv_lload hx hb dB_shorten_45 (lv_at hl 1 rfl) ?_
            refine lv_bipush (v := nI 8) hx hb dB_shorten_47 (by decide) ?_
            refine lv_lshl (v := j_shl ((j_shl 0 (nI 8)) ||| (m_byte a b c0 d ((nI k) - (nI 1)))) (nI 8)) hx hb dB_shorten_49 rfl ?_
            refine lv_lload_n hx hb dB_shorten_50 rfl (lv_at hl 2 rfl) ?_
            refine lv_lload_n hx hb dB_shorten_51 rfl (lv_at hl 3 rfl) ?_
            refine lv_lload hx hb dB_shorten_52 (lv_at hl 4 rfl) ?_
            refine lv_lload hx hb dB_shorten_54 (lv_at hl 5 rfl) ?_
            refine lv_iload hx hb dB_shorten_56 (lv_at hl 6 rfl) ?_
            refine lv_iload hx hb dB_shorten_58 (lv_at hl 0 rfl) ?_
            refine lv_isub hx hb dB_shorten_60 ?_
            refine ro_kl (va_runS (As := [.long a, .long b, .long c0, .long d, .int ((nI k) - (nI (1 + 1)))]) (rest := [.long (j_shl ((j_shl 0 (nI 8)) ||| (m_byte a b c0 d ((nI k) - (nI 1)))) (nI 8))]) ⟨hx, hb, hml, hown, hts⟩ (c_B_byteAt l D cI cJ cZ a b c0 d ((nI k) - (nI (1 + 1)))) (va_cwS 5 hts gB_shorten_B_byteAt_33 rfl rfl rfl (by decide +kernel) ⟨Nat.le_of_ble_eq_true rfl, Nat.le_of_ble_eq_true rfl⟩) (ro_preS (hP.sub [] rfl) hK) rfl rfl hl.1 rfl (lv_room (Nat.le_of_ble_eq_true rfl)) dB_shorten_61 ⟨Nat.le_of_ble_eq_true rfl, Nat.le_of_ble_eq_true rfl⟩) ?_
            refine lv_lor hx hb dB_shorten_64 ?_
            refine lv_lstore (lv' := [(9, .long ((j_shl ((j_shl 0 (nI 8)) ||| (m_byte a b c0 d ((nI k) - (nI 1)))) (nI 8)) ||| (m_byte a b c0 d ((nI k) - (nI (1 + 1)))))), (11, .int (nI (1 + 1))), (0, .long a), (2, .long b), (4, .long c0), (6, .long d), (8, .int (nI k))]) hx hb dB_shorten_65 hl (by decide) rfl (fun ls hl => ?_)
            refine lv_iinc (v := nI ((1 + 1) + 1)) (lv' := [(11, .int (nI ((1 + 1) + 1))), (9, .long ((j_shl ((j_shl 0 (nI 8)) ||| (m_byte a b c0 d ((nI k) - (nI 1)))) (nI 8)) ||| (m_byte a b c0 d ((nI k) - (nI (1 + 1)))))), (0, .long a), (2, .long b), (4, .long c0), (6, .long d), (8, .int (nI k))]) hx hb dB_shorten_67 hl (k := 1) rfl (nI_add _ 1) (by decide) rfl (fun ls hl => ?_)
            refine lv_goto (tgt := 39) hx hb dB_shorten_70 (by decide) ?_
            refine lv_iload hx hb dB_shorten_39 (lv_at hl 0 rfl) ?_
            refine lv_iconst (v := nI 3) hx hb dB_shorten_41 (by decide) ?_
            refine lv_icmp_gt (tgt := 73) hx hb dB_shorten_42 (by decide) (fun c_42 => ?_) (fun c_42 => ?_)
            · skip
              have c_42 : 3 < ((1 + 1) + 1) := n_lt c_42 (by omega) (by omega)
              omega
            · skip
              have c_42 : ((1 + 1) + 1) ≤ 3 := n_nlt c_42 (by omega) (by omega)
              refine lv_lload hx hb dB_shorten_45 (lv_at hl 1 rfl) ?_
              refine lv_bipush (v := nI 8) hx hb dB_shorten_47 (by decide) ?_
              refine lv_lshl (v := j_shl ((j_shl ((j_shl 0 (nI 8)) ||| (m_byte a b c0 d ((nI k) - (nI 1)))) (nI 8)) ||| (m_byte a b c0 d ((nI k) - (nI (1 + 1))))) (nI 8)) hx hb dB_shorten_49 rfl ?_
              refine lv_lload_n hx hb dB_shorten_50 rfl (lv_at hl 2 rfl) ?_
              refine lv_lload_n hx hb dB_shorten_51 rfl (lv_at hl 3 rfl) ?_
              refine lv_lload hx hb dB_shorten_52 (lv_at hl 4 rfl) ?_
              refine lv_lload hx hb dB_shorten_54 (lv_at hl 5 rfl) ?_
              refine lv_iload hx hb dB_shorten_56 (lv_at hl 6 rfl) ?_
              refine lv_iload hx hb dB_shorten_58 (lv_at hl 0 rfl) ?_
              refine lv_isub hx hb dB_shorten_60 ?_
              refine ro_kl (va_runS (As := [.long a, .long b, .long c0, .long d, .int ((nI k) - (nI ((1 + 1) + 1)))]) (rest := [.long (j_shl ((j_shl ((j_shl 0 (nI 8)) ||| (m_byte a b c0 d ((nI k) - (nI 1)))) (nI 8)) ||| (m_byte a b c0 d ((nI k) - (nI (1 + 1))))) (nI 8))]) ⟨hx, hb, hml, hown, hts⟩ (c_B_byteAt l D cI cJ cZ a b c0 d ((nI k) - (nI ((1 + 1) + 1)))) (va_cwS 5 hts gB_shorten_B_byteAt_33 rfl rfl rfl (by decide +kernel) ⟨Nat.le_of_ble_eq_true rfl, Nat.le_of_ble_eq_true rfl⟩) (ro_preS (hP.sub [] rfl) hK) rfl rfl hl.1 rfl (lv_room (Nat.le_of_ble_eq_true rfl)) dB_shorten_61 ⟨Nat.le_of_ble_eq_true rfl, Nat.le_of_ble_eq_true rfl⟩) ?_
              refine lv_lor hx hb dB_shorten_64 ?_
              refine lv_lstore (lv' := [(9, .long ((j_shl ((j_shl ((j_shl 0 (nI 8)) ||| (m_byte a b c0 d ((nI k) - (nI 1)))) (nI 8)) ||| (m_byte a b c0 d ((nI k) - (nI (1 + 1))))) (nI 8)) ||| (m_byte a b c0 d ((nI k) - (nI ((1 + 1) + 1)))))), (11, .int (nI ((1 + 1) + 1))), (0, .long a), (2, .long b), (4, .long c0), (6, .long d), (8, .int (nI k))]) hx hb dB_shorten_65 hl (by decide) rfl (fun ls hl => ?_)
              refine lv_iinc (v := nI (((1 + 1) + 1) + 1)) (lv' := [(11, .int (nI (((1 + 1) + 1) + 1))), (9, .long ((j_shl ((j_shl ((j_shl 0 (nI 8)) ||| (m_byte a b c0 d ((nI k) - (nI 1)))) (nI 8)) ||| (m_byte a b c0 d ((nI k) - (nI (1 + 1))))) (nI 8)) ||| (m_byte a b c0 d ((nI k) - (nI ((1 + 1) + 1)))))), (0, .long a), (2, .long b), (4, .long c0), (6, .long d), (8, .int (nI k))]) hx hb dB_shorten_67 hl (k := 1) rfl (nI_add _ 1) (by decide) rfl (fun ls hl => ?_)
              refine lv_goto (tgt := 39) hx hb dB_shorten_70 (by decide) ?_
              refine lv_iload hx hb dB_shorten_39 (lv_at hl 0 rfl) ?_
              refine lv_iconst (v := nI 3) hx hb dB_shorten_41 (by decide) ?_
              refine lv_icmp_gt (tgt := 73) hx hb dB_shorten_42 (by decide) (fun c_42 => ?_) (fun c_42 => ?_)
              · skip
                have c_42 : 3 < (((1 + 1) + 1) + 1) := n_lt c_42 (by omega) (by omega)
                refine lv_lload hx hb dB_shorten_73 (lv_at hl 1 rfl) ?_
                refine lv_ldc2 (v := 8388608) hx hb hown (hts (.constantLong RB 13 8388608) (by decide +kernel)) dB_shorten_75 ?_
                refine lv_land hx hb dB_shorten_78 ?_
                refine lv_lconst (v := 0) hx hb dB_shorten_79 (by decide) ?_
                refine lc_eq (tgt := 94) hx hb dB_shorten_80 dB_shorten_81 (by decide) (fun c_81 => ?_) (fun c_81 => ?_)
                · skip
                  refine lv_iload hx hb dB_shorten_94 (lv_at hl 6 rfl) ?_
                  refine lv_i2l (v := (nI k).toInt64) hx hb dB_shorten_96 rfl ?_
                  refine lv_bipush (v := nI 24) hx hb dB_shorten_97 (by decide) ?_
                  refine lv_lshl (v := j_shl ((nI k).toInt64) (nI 24)) hx hb dB_shorten_99 rfl ?_
                  refine lv_lload hx hb dB_shorten_100 (lv_at hl 1 rfl) ?_
                  refine lv_lor hx hb dB_shorten_102 ?_
                  exact ro_lret hQ hx hb hr hlocks dB_shorten_103 (by simp [m_short, m_num, hz, c_81])
                · skip
                  refine lv_lload hx hb dB_shorten_84 (lv_at hl 1 rfl) ?_
                  refine lv_bipush (v := nI 8) hx hb dB_shorten_86 (by decide) ?_
                  refine lv_lushr (v := j_ushr ((j_shl ((j_shl ((j_shl 0 (nI 8)) ||| (m_byte a b c0 d ((nI k) - (nI 1)))) (nI 8)) ||| (m_byte a b c0 d ((nI k) - (nI (1 + 1))))) (nI 8)) ||| (m_byte a b c0 d ((nI k) - (nI ((1 + 1) + 1))))) (nI 8)) hx hb dB_shorten_88 rfl ?_
                  refine lv_lstore (lv' := [(9, .long (j_ushr ((j_shl ((j_shl ((j_shl 0 (nI 8)) ||| (m_byte a b c0 d ((nI k) - (nI 1)))) (nI 8)) ||| (m_byte a b c0 d ((nI k) - (nI (1 + 1))))) (nI 8)) ||| (m_byte a b c0 d ((nI k) - (nI ((1 + 1) + 1))))) (nI 8))), (11, .int (nI (((1 + 1) + 1) + 1))), (0, .long a), (2, .long b), (4, .long c0), (6, .long d), (8, .int (nI k))]) hx hb dB_shorten_89 hl (by decide) rfl (fun ls hl => ?_)
                  refine lv_iinc (v := nI (k + 1)) (lv' := [(8, .int (nI (k + 1))), (9, .long (j_ushr ((j_shl ((j_shl ((j_shl 0 (nI 8)) ||| (m_byte a b c0 d ((nI k) - (nI 1)))) (nI 8)) ||| (m_byte a b c0 d ((nI k) - (nI (1 + 1))))) (nI 8)) ||| (m_byte a b c0 d ((nI k) - (nI ((1 + 1) + 1))))) (nI 8))), (11, .int (nI (((1 + 1) + 1) + 1))), (0, .long a), (2, .long b), (4, .long c0), (6, .long d)]) hx hb dB_shorten_91 hl (k := 6) rfl (nI_add _ 1) (by decide) rfl (fun ls hl => ?_)
                  refine lv_iload hx hb dB_shorten_94 (lv_at hl 0 rfl) ?_
                  refine lv_i2l (v := (nI (k + 1)).toInt64) hx hb dB_shorten_96 rfl ?_
                  refine lv_bipush (v := nI 24) hx hb dB_shorten_97 (by decide) ?_
                  refine lv_lshl (v := j_shl ((nI (k + 1)).toInt64) (nI 24)) hx hb dB_shorten_99 rfl ?_
                  refine lv_lload hx hb dB_shorten_100 (lv_at hl 1 rfl) ?_
                  refine lv_lor hx hb dB_shorten_102 ?_
                  exact ro_lret hQ hx hb hr hlocks dB_shorten_103 (by simp [m_short, m_num, hz, c_81])
              · skip
                have c_42 : (((1 + 1) + 1) + 1) ≤ 3 := n_nlt c_42 (by omega) (by omega)
                omega
      · skip
        rw [← nI_0] at c_6
        have c_6 : 0 < k := n_nle c_6 (by omega) (by omega)
        refine lv_lload_n hx hb dB_shorten_9 rfl (lv_at hl 0 rfl) ?_
        refine lv_lload_n hx hb dB_shorten_10 rfl (lv_at hl 1 rfl) ?_
        refine lv_lload hx hb dB_shorten_11 (lv_at hl 2 rfl) ?_
        refine lv_lload hx hb dB_shorten_13 (lv_at hl 3 rfl) ?_
        refine lv_iload hx hb dB_shorten_15 (lv_at hl 4 rfl) ?_
        refine lv_iconst (v := nI 1) hx hb dB_shorten_17 (by decide) ?_
        refine lv_isub hx hb dB_shorten_18 ?_
        refine tp_i (y := nI (k - 1)) (pk_sub (by omega)) ?_
        refine ro_kl (va_runS (As := [.long a, .long b, .long c0, .long d, .int (nI (k - 1))]) (rest := []) ⟨hx, hb, hml, hown, hts⟩ (c_B_byteAt l D cI cJ cZ a b c0 d (nI (k - 1))) (va_cwS 5 hts gB_shorten_B_byteAt_33 rfl rfl rfl (by decide +kernel) ⟨Nat.le_of_ble_eq_true rfl, Nat.le_of_ble_eq_true rfl⟩) (ro_preS (hP.sub [] rfl) hK) rfl rfl hl.1 rfl (lv_room (Nat.le_of_ble_eq_true rfl)) dB_shorten_19 ⟨Nat.le_of_ble_eq_true rfl, Nat.le_of_ble_eq_true rfl⟩) ?_
        refine lv_lconst (v := 0) hx hb dB_shorten_22 (by decide) ?_
        refine lc_ne (tgt := 33) hx hb dB_shorten_23 dB_shorten_24 (by decide) (fun c_24 => ?_) (fun c_24 => ?_)
        · skip
          have hz : m_size a b c0 d 32 = k := by rw [← hk]; exact m_size_e (by omega) c_24
          refine lv_lconst (v := 0) hx hb dB_shorten_33 (by decide) ?_
          refine lv_lstore (lv' := [(9, .long 0), (0, .long a), (2, .long b), (4, .long c0), (6, .long d), (8, .int (nI k))]) hx hb dB_shorten_34 hl (by decide) rfl (fun ls hl => ?_)
          refine lv_iconst (v := nI 1) hx hb dB_shorten_36 (by decide) ?_
          refine lv_istore (lv' := [(11, .int (nI 1)), (9, .long 0), (0, .long a), (2, .long b), (4, .long c0), (6, .long d), (8, .int (nI k))]) hx hb dB_shorten_37 hl (by decide) rfl (fun ls hl => ?_)
          refine lv_iload hx hb dB_shorten_39 (lv_at hl 0 rfl) ?_
          refine lv_iconst (v := nI 3) hx hb dB_shorten_41 (by decide) ?_
          refine lv_icmp_gt (tgt := 73) hx hb dB_shorten_42 (by decide) (fun c_42 => ?_) (fun c_42 => ?_)
          · skip
            have c_42 : 3 < 1 := n_lt c_42 (by omega) (by omega)
            omega
          · skip
            have c_42 : 1 ≤ 3 := n_nlt c_42 (by omega) (by omega)
            refine lv_lload hx hb dB_shorten_45 (lv_at hl 1 rfl) ?_
            refine lv_bipush (v := nI 8) hx hb dB_shorten_47 (by decide) ?_
            refine lv_lshl (v := j_shl 0 (nI 8)) hx hb dB_shorten_49 rfl ?_
            refine lv_lload_n hx hb dB_shorten_50 rfl (lv_at hl 2 rfl) ?_
            refine lv_lload_n hx hb dB_shorten_51 rfl (lv_at hl 3 rfl) ?_
            refine lv_lload hx hb dB_shorten_52 (lv_at hl 4 rfl) ?_
            refine lv_lload hx hb dB_shorten_54 (lv_at hl 5 rfl) ?_
            refine lv_iload hx hb dB_shorten_56 (lv_at hl 6 rfl) ?_
            refine lv_iload hx hb dB_shorten_58 (lv_at hl 0 rfl) ?_
            refine lv_isub hx hb dB_shorten_60 ?_
            refine ro_kl (va_runS (As := [.long a, .long b, .long c0, .long d, .int ((nI k) - (nI 1))]) (rest := [.long (j_shl 0 (nI 8))]) ⟨hx, hb, hml, hown, hts⟩ (c_B_byteAt l D cI cJ cZ a b c0 d ((nI k) - (nI 1))) (va_cwS 5 hts gB_shorten_B_byteAt_33 rfl rfl rfl (by decide +kernel) ⟨Nat.le_of_ble_eq_true rfl, Nat.le_of_ble_eq_true rfl⟩) (ro_preS (hP.sub [] rfl) hK) rfl rfl hl.1 rfl (lv_room (Nat.le_of_ble_eq_true rfl)) dB_shorten_61 ⟨Nat.le_of_ble_eq_true rfl, Nat.le_of_ble_eq_true rfl⟩) ?_
            refine lv_lor hx hb dB_shorten_64 ?_
            refine lv_lstore (lv' := [(9, .long ((j_shl 0 (nI 8)) ||| (m_byte a b c0 d ((nI k) - (nI 1))))), (11, .int (nI 1)), (0, .long a), (2, .long b), (4, .long c0), (6, .long d), (8, .int (nI k))]) hx hb dB_shorten_65 hl (by decide) rfl (fun ls hl => ?_)
            refine lv_iinc (v := nI (1 + 1)) (lv' := [(11, .int (nI (1 + 1))), (9, .long ((j_shl 0 (nI 8)) ||| (m_byte a b c0 d ((nI k) - (nI 1))))), (0, .long a), (2, .long b), (4, .long c0), (6, .long d), (8, .int (nI k))]) hx hb dB_shorten_67 hl (k := 1) rfl (nI_add _ 1) (by decide) rfl (fun ls hl => ?_)
            refine lv_goto (tgt := 39) hx hb dB_shorten_70 (by decide) ?_
            refine lv_iload hx hb dB_shorten_39 (lv_at hl 0 rfl) ?_
            refine lv_iconst (v := nI 3) hx hb dB_shorten_41 (by decide) ?_
            refine lv_icmp_gt (tgt := 73) hx hb dB_shorten_42 (by decide) (fun c_42 => ?_) (fun c_42 => ?_)
            · skip
              have c_42 : 3 < (1 + 1) := n_lt c_42 (by omega) (by omega)
              omega
            · skip
              have c_42 : (1 + 1) ≤ 3 := n_nlt c_42 (by omega) (by omega)
              refine lv_lload hx hb dB_shorten_45 (lv_at hl 1 rfl) ?_
              refine lv_bipush (v := nI 8) hx hb dB_shorten_47 (by decide) ?_
              refine lv_lshl (v := j_shl ((j_shl 0 (nI 8)) ||| (m_byte a b c0 d ((nI k) - (nI 1)))) (nI 8)) hx hb dB_shorten_49 rfl ?_
              refine lv_lload_n hx hb dB_shorten_50 rfl (lv_at hl 2 rfl) ?_
              refine lv_lload_n hx hb dB_shorten_51 rfl (lv_at hl 3 rfl) ?_
              refine lv_lload hx hb dB_shorten_52 (lv_at hl 4 rfl) ?_
              refine lv_lload hx hb dB_shorten_54 (lv_at hl 5 rfl) ?_
              refine lv_iload hx hb dB_shorten_56 (lv_at hl 6 rfl) ?_
              refine lv_iload hx hb dB_shorten_58 (lv_at hl 0 rfl) ?_
              refine lv_isub hx hb dB_shorten_60 ?_
              refine ro_kl (va_runS (As := [.long a, .long b, .long c0, .long d, .int ((nI k) - (nI (1 + 1)))]) (rest := [.long (j_shl ((j_shl 0 (nI 8)) ||| (m_byte a b c0 d ((nI k) - (nI 1)))) (nI 8))]) ⟨hx, hb, hml, hown, hts⟩ (c_B_byteAt l D cI cJ cZ a b c0 d ((nI k) - (nI (1 + 1)))) (va_cwS 5 hts gB_shorten_B_byteAt_33 rfl rfl rfl (by decide +kernel) ⟨Nat.le_of_ble_eq_true rfl, Nat.le_of_ble_eq_true rfl⟩) (ro_preS (hP.sub [] rfl) hK) rfl rfl hl.1 rfl (lv_room (Nat.le_of_ble_eq_true rfl)) dB_shorten_61 ⟨Nat.le_of_ble_eq_true rfl, Nat.le_of_ble_eq_true rfl⟩) ?_
              refine lv_lor hx hb dB_shorten_64 ?_
              refine lv_lstore (lv' := [(9, .long ((j_shl ((j_shl 0 (nI 8)) ||| (m_byte a b c0 d ((nI k) - (nI 1)))) (nI 8)) ||| (m_byte a b c0 d ((nI k) - (nI (1 + 1)))))), (11, .int (nI (1 + 1))), (0, .long a), (2, .long b), (4, .long c0), (6, .long d), (8, .int (nI k))]) hx hb dB_shorten_65 hl (by decide) rfl (fun ls hl => ?_)
              refine lv_iinc (v := nI ((1 + 1) + 1)) (lv' := [(11, .int (nI ((1 + 1) + 1))), (9, .long ((j_shl ((j_shl 0 (nI 8)) ||| (m_byte a b c0 d ((nI k) - (nI 1)))) (nI 8)) ||| (m_byte a b c0 d ((nI k) - (nI (1 + 1)))))), (0, .long a), (2, .long b), (4, .long c0), (6, .long d), (8, .int (nI k))]) hx hb dB_shorten_67 hl (k := 1) rfl (nI_add _ 1) (by decide) rfl (fun ls hl => ?_)
              refine lv_goto (tgt := 39) hx hb dB_shorten_70 (by decide) ?_
              refine lv_iload hx hb dB_shorten_39 (lv_at hl 0 rfl) ?_
              refine lv_iconst (v := nI 3) hx hb dB_shorten_41 (by decide) ?_
              refine lv_icmp_gt (tgt := 73) hx hb dB_shorten_42 (by decide) (fun c_42 => ?_) (fun c_42 => ?_)
              · skip
                have c_42 : 3 < ((1 + 1) + 1) := n_lt c_42 (by omega) (by omega)
                omega
              · skip
                have c_42 : ((1 + 1) + 1) ≤ 3 := n_nlt c_42 (by omega) (by omega)
                refine lv_lload hx hb dB_shorten_45 (lv_at hl 1 rfl) ?_
                refine lv_bipush (v := nI 8) hx hb dB_shorten_47 (by decide) ?_
                refine lv_lshl (v := j_shl ((j_shl ((j_shl 0 (nI 8)) ||| (m_byte a b c0 d ((nI k) - (nI 1)))) (nI 8)) ||| (m_byte a b c0 d ((nI k) - (nI (1 + 1))))) (nI 8)) hx hb dB_shorten_49 rfl ?_
                refine lv_lload_n hx hb dB_shorten_50 rfl (lv_at hl 2 rfl) ?_
                refine lv_lload_n hx hb dB_shorten_51 rfl (lv_at hl 3 rfl) ?_
                refine lv_lload hx hb dB_shorten_52 (lv_at hl 4 rfl) ?_
                refine lv_lload hx hb dB_shorten_54 (lv_at hl 5 rfl) ?_
                refine lv_iload hx hb dB_shorten_56 (lv_at hl 6 rfl) ?_
                refine lv_iload hx hb dB_shorten_58 (lv_at hl 0 rfl) ?_
                refine lv_isub hx hb dB_shorten_60 ?_
                refine ro_kl (va_runS (As := [.long a, .long b, .long c0, .long d, .int ((nI k) - (nI ((1 + 1) + 1)))]) (rest := [.long (j_shl ((j_shl ((j_shl 0 (nI 8)) ||| (m_byte a b c0 d ((nI k) - (nI 1)))) (nI 8)) ||| (m_byte a b c0 d ((nI k) - (nI (1 + 1))))) (nI 8))]) ⟨hx, hb, hml, hown, hts⟩ (c_B_byteAt l D cI cJ cZ a b c0 d ((nI k) - (nI ((1 + 1) + 1)))) (va_cwS 5 hts gB_shorten_B_byteAt_33 rfl rfl rfl (by decide +kernel) ⟨Nat.le_of_ble_eq_true rfl, Nat.le_of_ble_eq_true rfl⟩) (ro_preS (hP.sub [] rfl) hK) rfl rfl hl.1 rfl (lv_room (Nat.le_of_ble_eq_true rfl)) dB_shorten_61 ⟨Nat.le_of_ble_eq_true rfl, Nat.le_of_ble_eq_true rfl⟩) ?_
                refine lv_lor hx hb dB_shorten_64 ?_
                refine lv_lstore (lv' := [(9, .long ((j_shl ((j_shl ((j_shl 0 (nI 8)) ||| (m_byte a b c0 d ((nI k) - (nI 1)))) (nI 8)) ||| (m_byte a b c0 d ((nI k) - (nI (1 + 1))))) (nI 8)) ||| (m_byte a b c0 d ((nI k) - (nI ((1 + 1) + 1)))))), (11, .int (nI ((1 + 1) + 1))), (0, .long a), (2, .long b), (4, .long c0), (6, .long d), (8, .int (nI k))]) hx hb dB_shorten_65 hl (by decide) rfl (fun ls hl => ?_)
                refine lv_iinc (v := nI (((1 + 1) + 1) + 1)) (lv' := [(11, .int (nI (((1 + 1) + 1) + 1))), (9, .long ((j_shl ((j_shl ((j_shl 0 (nI 8)) ||| (m_byte a b c0 d ((nI k) - (nI 1)))) (nI 8)) ||| (m_byte a b c0 d ((nI k) - (nI (1 + 1))))) (nI 8)) ||| (m_byte a b c0 d ((nI k) - (nI ((1 + 1) + 1)))))), (0, .long a), (2, .long b), (4, .long c0), (6, .long d), (8, .int (nI k))]) hx hb dB_shorten_67 hl (k := 1) rfl (nI_add _ 1) (by decide) rfl (fun ls hl => ?_)
                refine lv_goto (tgt := 39) hx hb dB_shorten_70 (by decide) ?_
                refine lv_iload hx hb dB_shorten_39 (lv_at hl 0 rfl) ?_
                refine lv_iconst (v := nI 3) hx hb dB_shorten_41 (by decide) ?_
                refine lv_icmp_gt (tgt := 73) hx hb dB_shorten_42 (by decide) (fun c_42 => ?_) (fun c_42 => ?_)
                · skip
                  have c_42 : 3 < (((1 + 1) + 1) + 1) := n_lt c_42 (by omega) (by omega)
                  refine lv_lload hx hb dB_shorten_73 (lv_at hl 1 rfl) ?_
                  refine lv_ldc2 (v := 8388608) hx hb hown (hts (.constantLong RB 13 8388608) (by decide +kernel)) dB_shorten_75 ?_
                  refine lv_land hx hb dB_shorten_78 ?_
                  refine lv_lconst (v := 0) hx hb dB_shorten_79 (by decide) ?_
                  refine lc_eq (tgt := 94) hx hb dB_shorten_80 dB_shorten_81 (by decide) (fun c_81 => ?_) (fun c_81 => ?_)
                  · skip
                    refine lv_iload hx hb dB_shorten_94 (lv_at hl 6 rfl) ?_
                    refine lv_i2l (v := (nI k).toInt64) hx hb dB_shorten_96 rfl ?_
                    refine lv_bipush (v := nI 24) hx hb dB_shorten_97 (by decide) ?_
                    refine lv_lshl (v := j_shl ((nI k).toInt64) (nI 24)) hx hb dB_shorten_99 rfl ?_
                    refine lv_lload hx hb dB_shorten_100 (lv_at hl 1 rfl) ?_
                    refine lv_lor hx hb dB_shorten_102 ?_
                    exact ro_lret hQ hx hb hr hlocks dB_shorten_103 (by simp [m_short, m_num, hz, c_81])
                  · skip
                    refine lv_lload hx hb dB_shorten_84 (lv_at hl 1 rfl) ?_
                    refine lv_bipush (v := nI 8) hx hb dB_shorten_86 (by decide) ?_
                    refine lv_lushr (v := j_ushr ((j_shl ((j_shl ((j_shl 0 (nI 8)) ||| (m_byte a b c0 d ((nI k) - (nI 1)))) (nI 8)) ||| (m_byte a b c0 d ((nI k) - (nI (1 + 1))))) (nI 8)) ||| (m_byte a b c0 d ((nI k) - (nI ((1 + 1) + 1))))) (nI 8)) hx hb dB_shorten_88 rfl ?_
                    refine lv_lstore (lv' := [(9, .long (j_ushr ((j_shl ((j_shl ((j_shl 0 (nI 8)) ||| (m_byte a b c0 d ((nI k) - (nI 1)))) (nI 8)) ||| (m_byte a b c0 d ((nI k) - (nI (1 + 1))))) (nI 8)) ||| (m_byte a b c0 d ((nI k) - (nI ((1 + 1) + 1))))) (nI 8))), (11, .int (nI (((1 + 1) + 1) + 1))), (0, .long a), (2, .long b), (4, .long c0), (6, .long d), (8, .int (nI k))]) hx hb dB_shorten_89 hl (by decide) rfl (fun ls hl => ?_)
                    refine lv_iinc (v := nI (k + 1)) (lv' := [(8, .int (nI (k + 1))), (9, .long (j_ushr ((j_shl ((j_shl ((j_shl 0 (nI 8)) ||| (m_byte a b c0 d ((nI k) - (nI 1)))) (nI 8)) ||| (m_byte a b c0 d ((nI k) - (nI (1 + 1))))) (nI 8)) ||| (m_byte a b c0 d ((nI k) - (nI ((1 + 1) + 1))))) (nI 8))), (11, .int (nI (((1 + 1) + 1) + 1))), (0, .long a), (2, .long b), (4, .long c0), (6, .long d)]) hx hb dB_shorten_91 hl (k := 6) rfl (nI_add _ 1) (by decide) rfl (fun ls hl => ?_)
                    refine lv_iload hx hb dB_shorten_94 (lv_at hl 0 rfl) ?_
                    refine lv_i2l (v := (nI (k + 1)).toInt64) hx hb dB_shorten_96 rfl ?_
                    refine lv_bipush (v := nI 24) hx hb dB_shorten_97 (by decide) ?_
                    refine lv_lshl (v := j_shl ((nI (k + 1)).toInt64) (nI 24)) hx hb dB_shorten_99 rfl ?_
                    refine lv_lload hx hb dB_shorten_100 (lv_at hl 1 rfl) ?_
                    refine lv_lor hx hb dB_shorten_102 ?_
                    exact ro_lret hQ hx hb hr hlocks dB_shorten_103 (by simp [m_short, m_num, hz, c_81])
                · skip
                  have c_42 : (((1 + 1) + 1) + 1) ≤ 3 := n_nlt c_42 (by omega) (by omega)
                  omega
        · skip
          refine lv_iinc (v := nI (k - 1)) (lv' := [(8, .int (nI (k - 1))), (0, .long a), (2, .long b), (4, .long c0), (6, .long d)]) hx hb dB_shorten_27 hl (k := 4) rfl (sb_m1 (by omega)) (by decide) rfl (fun ls hl => ?_)
          refine lv_goto (tgt := 4) hx hb dB_shorten_30 (by decide) ?_
          exact ih_4 (k - 1) (by omega) (by omega) ((m_size_s (by omega) c_24).trans hk) ls (lv_sub hl [1, 2, 3, 4, 0] rfl)
  exact lp_4 33 32 (by omega) (by omega) rfl ls (lv_sub hl [1, 2, 3, 4, 0] rfl)
