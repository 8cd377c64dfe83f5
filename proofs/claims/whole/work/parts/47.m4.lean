abbrev RMX3_judged : Room := { frames := 4, cells := 1, slots := 2, locals := 81 }
set_option maxHeartbeats 4000000 in
set_option maxRecDepth 100000 in
theorem c_X3_judged (l : Launch) (G : gG) (y : Nat) (n th : Int32) (w : Wt) (a z : Nat) (L P : List Nat) (hwa : w 0 = some (a, tk L)) (hwz : w 1 = some (z, tk P)) (hJ : Jt L (tk L)) (hJ2 : Jt P (tk P)) (H0 : Heap) (hO : MO G y n th H0) (hLA : LA G y w H0) (hT : TA G a L H0) (hT2 : TA G z P H0) : XM l yX3_judged wsX3_judged RMX3_judged G [.ref y] H0 0 0 1 2 (qR (fun r H1 => H0.size ≤ r ∧ ∃ f : Nat → Int32, gI G r 1 2 f H1 ∧ f 0 = ordr L P ∧ f 1 = tellr L P)) xN := by
  refine x_ofW (cc := cX3_judged) (maxL := 2) (ret := (some (.array .int))) (by decide) rfl (Nat.le_of_ble_eq_true rfl) ?_
  intro p e s m below meth c hx hb hr hml hown hts hlocks hout hin2 h0 hE ls hl
  replace hown : s.vm.findClass RX3 = some m.cls := hown
  have hK := hE.1
  have hS : va_S (gA 0 0 H0.size) H0 H0 [] := va_S.rf
  generalize hargs : ([.ref y] : List Value).toArray = args at hts ⊢
  have hw0 := hts (.fieldLink RX3 28 "ReleaseledgerModel" "many" "[[I") (by decide +kernel)
  have hw1 : ∀ w ∈ u_ws RX3 TX3 9, w ∈ wsX3_judged := by decide +kernel
  have hw2 := hts (.arrayClass .int) (by decide +kernel)
  have hl : lv_has ls 2 [(0, .ref y)] := hl
  obtain ⟨m13, -, -, -, -, lcnt, -⟩ := id hLA
  obtain ⟨fm_s0, mm_s0, hfm_s0⟩ := lcnt 0 (by decide)
  obtain ⟨fm_s1, mm_s1, hfm_s1⟩ := lcnt 1 (by decide)
  replace hfm_s0 := hfm_s0 _ hwa
  replace hfm_s1 := hfm_s1 _ hwz
  have h60_s0 := tk_le L 1
  have h60_s1 := tk_le P 1
  have hTn_a := hT.le
  have hTn_z := hT2.le
  refine lv_aload_n hx hb dX3_judged_0 rfl (lv_at hl 0 rfl) ?_
  refine lv_iconst (v := nI 0) hx hb dX3_judged_1 (by decide) ?_
  refine x_goI_ro (x_runV (As := [.int (nI 0)]) (rest := []) ⟨hx, hb, hml, hown, hts⟩ hE h0 hS (c_X3_rows l G y n th w a z L P hwa hwz hJ hJ2 0 (by decide) H0 hO hLA hT hT2) (cwV 1 hts gX3_judged_X3_rows rfl rfl rfl (by decide +kernel) ⟨Nat.le_of_ble_eq_true rfl, Nat.le_of_ble_eq_true rfl⟩) (gO.recv (C := RX3) hK hO rfl) (by omega) rfl rfl hl.1 rfl (lv_room (Nat.le_of_ble_eq_true rfl)) dX3_judged_2 ⟨by first | exact Nat.le_of_ble_eq_true rfl | omega, by first | exact Nat.le_of_ble_eq_true rfl | omega⟩) hS (by omega) (fun _ _ _ _ _ h => h.elim) (fun locs hq hS => ?_)
  refine lv_istore_n (lv' := [(1, .int (rz L P 0)), (0, .ref y)]) hx hb dX3_judged_5 rfl hl (by decide) rfl (fun ls hl => ?_)
  refine lv_iload_n hx hb dX3_judged_6 rfl (lv_at hl 0 rfl) ?_
  refine lv_if_eq (tgt := 22) hx hb dX3_judged_7 (by decide) (fun c7 => ?_) (fun c7 => ?_)
  · refine lv_aload_n hx hb dX3_judged_22 rfl (lv_at hl 1 rfl) ?_
    refine x_get (ci := 3) hx hb hts hown hK rfl hw1 5 (by decide) hw0 hO rfl dX3_judged_23 ?_
    refine lv_iconst (v := nI 0) hx hb dX3_judged_26 (by decide) ?_
    refine x_aald (k := 3) (v := (y + 14 + 0)) hx hb hK (by decide) rfl m13 (by omega) (by decide) (by rw [rwk_at (by omega), Nat.one_mul]) dX3_judged_27 ?_
    refine lv_iconst (v := nI 1) hx hb dX3_judged_28 (by decide) ?_
    refine x_iald hx hb hK mm_s0 (by omega) (by decide) dX3_judged_29 ?_
    refine x_rw (z := (nI ((tk L 1).length))) (hfm_s0 _ (by omega)) ?_
    refine x_if_neN (tgt := 37) hx hb (by omega) dX3_judged_30 (by decide) (fun c30 => ?_) (fun c30 => ?_)
    · refine lv_iconst (v := nI 0) hx hb dX3_judged_37 (by decide) ?_
      refine lv_aload_n hx hb dX3_judged_38 rfl (lv_at hl 1 rfl) ?_
      refine x_get (ci := 3) hx hb hts hown hK rfl hw1 5 (by decide) hw0 hO rfl dX3_judged_39 ?_
      refine lv_iconst (v := nI 1) hx hb dX3_judged_42 (by decide) ?_
      refine x_aald (k := 3) (v := (y + 14 + 1)) hx hb hK (by decide) rfl m13 (by omega) (by decide) (by rw [rwk_at (by omega), Nat.one_mul]) dX3_judged_43 ?_
      refine lv_iconst (v := nI 1) hx hb dX3_judged_44 (by decide) ?_
      refine x_iald hx hb hK mm_s1 (by omega) (by decide) dX3_judged_45 ?_
      refine x_rw (z := (nI ((tk P 1).length))) (hfm_s1 _ (by omega)) ?_
      refine x_if_neN (tgt := 53) hx hb (by omega) dX3_judged_46 (by decide) (fun c46 => ?_) (fun c46 => ?_)
      · refine lv_iconst (v := nI 0) hx hb dX3_judged_53 (by decide) ?_
        refine x_icmp_eq (tgt := 84) hx hb (by omega) (by omega) dX3_judged_54 (by decide) (fun c54 => ?_) (fun c54 => ?_)
        · have hsm := jd_same (L := L) (P := P) (by first | exact Or.inl ⟨by omega, by omega⟩ | exact Or.inr ⟨by omega, by omega⟩)
          refine lv_aload_n hx hb dX3_judged_84 rfl (lv_at hl 1 rfl) ?_
          refine lv_iconst (v := nI 1) hx hb dX3_judged_85 (by decide) ?_
          refine x_goI_ro (x_runV (As := [.int (nI 1)]) (rest := []) ⟨hx, hb, hml, hown, hts⟩ hE h0 hS (c_X3_rows l G y n th w a z L P hwa hwz hJ hJ2 1 (by decide) H0 hO hLA hT hT2) (cwV 1 hts gX3_judged_X3_rows rfl rfl rfl (by decide +kernel) ⟨Nat.le_of_ble_eq_true rfl, Nat.le_of_ble_eq_true rfl⟩) (gO.recv (C := RX3) hK hO rfl) (by omega) rfl rfl hl.1 rfl (lv_room (Nat.le_of_ble_eq_true rfl)) dX3_judged_86 ⟨by first | exact Nat.le_of_ble_eq_true rfl | omega, by first | exact Nat.le_of_ble_eq_true rfl | omega⟩) hS (by omega) (fun _ _ _ _ _ h => h.elim) (fun locs hq hS => ?_)
          refine lv_istore_n (lv' := [(1, .int (rz L P 1)), (0, .ref y)]) hx hb dX3_judged_89 rfl hl (by decide) rfl (fun ls hl => ?_)
          refine lv_iload_n hx hb dX3_judged_90 rfl (lv_at hl 0 rfl) ?_
          refine lv_if_eq (tgt := 106) hx hb dX3_judged_91 (by decide) (fun c91 => ?_) (fun c91 => ?_)
          · refine lv_aload_n hx hb dX3_judged_106 rfl (lv_at hl 1 rfl) ?_
            refine lv_iconst (v := nI 2) hx hb dX3_judged_107 (by decide) ?_
            refine x_goI_ro (x_runV (As := [.int (nI 2)]) (rest := []) ⟨hx, hb, hml, hown, hts⟩ hE h0 hS (c_X3_rows l G y n th w a z L P hwa hwz hJ hJ2 2 (by decide) H0 hO hLA hT hT2) (cwV 1 hts gX3_judged_X3_rows rfl rfl rfl (by decide +kernel) ⟨Nat.le_of_ble_eq_true rfl, Nat.le_of_ble_eq_true rfl⟩) (gO.recv (C := RX3) hK hO rfl) (by omega) rfl rfl hl.1 rfl (lv_room (Nat.le_of_ble_eq_true rfl)) dX3_judged_108 ⟨by first | exact Nat.le_of_ble_eq_true rfl | omega, by first | exact Nat.le_of_ble_eq_true rfl | omega⟩) hS (by omega) (fun _ _ _ _ _ h => h.elim) (fun locs hq hS => ?_)
            refine lv_istore_n (lv' := [(1, .int (rz L P 2)), (0, .ref y)]) hx hb dX3_judged_111 rfl hl (by decide) rfl (fun ls hl => ?_)
            refine lv_iconst (v := nI 2) hx hb dX3_judged_112 (by decide) ?_
            refine x_newI (n := 2) hx hb hK hS hw2 (by decide) (Nat.le_of_ble_eq_true rfl) (Nat.le_of_ble_eq_true rfl) dX3_judged_113 (fun z4 H5 hze_z4 hz0_z4 hz4 hF hz_z4 hS => ?_)
            have hlt_hO := hO.lt
            have hlt_m13 := m13.lt
            have hlt_mm_s0 := mm_s0.lt
            have hlt_mm_s1 := mm_s1.lt
            have hO := hO.fr hF (by omega)
            have m13 := m13.fr hF (by omega)
            have mm_s0 := mm_s0.fr hF (by omega)
            have mm_s1 := mm_s1.fr hF (by omega)
            refine lv_dup hx hb dX3_judged_115 rfl ?_
            refine lv_iconst (v := nI 0) hx hb dX3_judged_116 (by decide) ?_
            refine lv_iload_n hx hb dX3_judged_117 rfl (lv_at hl 0 rfl) ?_
            refine x_iast hx hb hK hz4 (by omega) (by decide) hS (by unfold gA; omega) dX3_judged_118 (fun H6 locs hz4 hF hz hS => ?_)
            have hO := hO.fr hF (by omega)
            have m13 := m13.fr hF (by omega)
            have mm_s0 := mm_s0.fr hF (by omega)
            have mm_s1 := mm_s1.fr hF (by omega)
            refine lv_dup hx hb dX3_judged_119 rfl ?_
            refine lv_iconst (v := nI 1) hx hb dX3_judged_120 (by decide) ?_
            refine lv_iload_n hx hb dX3_judged_121 rfl (lv_at hl 0 rfl) ?_
            refine lv_if_ne (tgt := 129) hx hb dX3_judged_122 (by decide) (fun c122 => ?_) (fun c122 => ?_)
            · refine lv_iconst (v := nI 2) hx hb dX3_judged_129 (by decide) ?_
              refine x_iast hx hb hK hz4 (by omega) (by decide) hS (by unfold gA; omega) dX3_judged_130 (fun H7 locs hz4 hF hz hS => ?_)
              have hO := hO.fr hF (by omega)
              have m13 := m13.fr hF (by omega)
              have mm_s0 := mm_s0.fr hF (by omega)
              have mm_s1 := mm_s1.fr hF (by omega)
              exact x_aret hx hb hr (by first | exact Or.inl ⟨_, rfl⟩ | exact Or.inr ⟨_, rfl⟩) hlocks h0 hS (by omega) (by omega) dX3_judged_131 (⟨hz0_z4, _, hz4, by have hj := jd_2 c7 (hsm.trans c91); rw [if_neg c122] at hj; exact ⟨hj.1, hj.2⟩⟩)
            · refine lv_iconst (v := (-1)) hx hb dX3_judged_125 (by decide) ?_
              refine lv_goto (tgt := 130) hx hb dX3_judged_126 (by decide) ?_
              refine x_iast hx hb hK hz4 (by omega) (by decide) hS (by unfold gA; omega) dX3_judged_130 (fun H8 locs hz4 hF hz hS => ?_)
              have hO := hO.fr hF (by omega)
              have m13 := m13.fr hF (by omega)
              have mm_s0 := mm_s0.fr hF (by omega)
              have mm_s1 := mm_s1.fr hF (by omega)
              exact x_aret hx hb hr (by first | exact Or.inl ⟨_, rfl⟩ | exact Or.inr ⟨_, rfl⟩) hlocks h0 hS (by omega) (by omega) dX3_judged_131 (⟨hz0_z4, _, hz4, by have hj := jd_2 c7 (hsm.trans c91); rw [if_pos c122] at hj; exact ⟨hj.1, hj.2⟩⟩)
          · refine lv_iconst (v := nI 2) hx hb dX3_judged_94 (by decide) ?_
            refine x_newI (n := 2) hx hb hK hS hw2 (by decide) (Nat.le_of_ble_eq_true rfl) (Nat.le_of_ble_eq_true rfl) dX3_judged_95 (fun z9 H10 hze_z9 hz0_z9 hz9 hF hz_z9 hS => ?_)
            have hlt_hO := hO.lt
            have hlt_m13 := m13.lt
            have hlt_mm_s0 := mm_s0.lt
            have hlt_mm_s1 := mm_s1.lt
            have hO := hO.fr hF (by omega)
            have m13 := m13.fr hF (by omega)
            have mm_s0 := mm_s0.fr hF (by omega)
            have mm_s1 := mm_s1.fr hF (by omega)
            refine lv_dup hx hb dX3_judged_97 rfl ?_
            refine lv_iconst (v := nI 0) hx hb dX3_judged_98 (by decide) ?_
            refine lv_iload_n hx hb dX3_judged_99 rfl (lv_at hl 0 rfl) ?_
            refine x_iast hx hb hK hz9 (by omega) (by decide) hS (by unfold gA; omega) dX3_judged_100 (fun H11 locs hz9 hF hz hS => ?_)
            have hO := hO.fr hF (by omega)
            have m13 := m13.fr hF (by omega)
            have mm_s0 := mm_s0.fr hF (by omega)
            have mm_s1 := mm_s1.fr hF (by omega)
            refine lv_dup hx hb dX3_judged_101 rfl ?_
            refine lv_iconst (v := nI 1) hx hb dX3_judged_102 (by decide) ?_
            refine lv_iconst (v := nI 1) hx hb dX3_judged_103 (by decide) ?_
            refine x_iast hx hb hK hz9 (by omega) (by decide) hS (by unfold gA; omega) dX3_judged_104 (fun H12 locs hz9 hF hz hS => ?_)
            have hO := hO.fr hF (by omega)
            have m13 := m13.fr hF (by omega)
            have mm_s0 := mm_s0.fr hF (by omega)
            have mm_s1 := mm_s1.fr hF (by omega)
            exact x_aret hx hb hr (by first | exact Or.inl ⟨_, rfl⟩ | exact Or.inr ⟨_, rfl⟩) hlocks h0 hS (by omega) (by omega) dX3_judged_105 (⟨hz0_z9, _, hz9, by have hj := jd_1 c7 hsm c91; exact ⟨hj.1, hj.2⟩⟩)
        · exact absurd c54 (by decide)
      · refine lv_iconst (v := nI 1) hx hb dX3_judged_49 (by decide) ?_
        refine lv_goto (tgt := 54) hx hb dX3_judged_50 (by decide) ?_
        refine x_icmp_eq (tgt := 84) hx hb (by omega) (by omega) dX3_judged_54 (by decide) (fun c54 => ?_) (fun c54 => ?_)
        · exact absurd c54 (by decide)
        · refine lv_iconst (v := nI 2) hx hb dX3_judged_57 (by decide) ?_
          refine x_newI (n := 2) hx hb hK hS hw2 (by decide) (Nat.le_of_ble_eq_true rfl) (Nat.le_of_ble_eq_true rfl) dX3_judged_58 (fun z13 H14 hze_z13 hz0_z13 hz13 hF hz_z13 hS => ?_)
          have hlt_hO := hO.lt
          have hlt_m13 := m13.lt
          have hlt_mm_s0 := mm_s0.lt
          have hlt_mm_s1 := mm_s1.lt
          have hO := hO.fr hF (by omega)
          have m13 := m13.fr hF (by omega)
          have mm_s0 := mm_s0.fr hF (by omega)
          have mm_s1 := mm_s1.fr hF (by omega)
          refine lv_dup hx hb dX3_judged_60 rfl ?_
          refine lv_iconst (v := nI 0) hx hb dX3_judged_61 (by decide) ?_
          refine lv_aload_n hx hb dX3_judged_62 rfl (lv_at hl 1 rfl) ?_
          refine x_get (ci := 3) hx hb hts hown hK rfl hw1 5 (by decide) hw0 hO rfl dX3_judged_63 ?_
          refine lv_iconst (v := nI 0) hx hb dX3_judged_66 (by decide) ?_
          refine x_aald (k := 3) (v := (y + 14 + 0)) hx hb hK (by decide) rfl m13 (by omega) (by decide) (by rw [rwk_at (by omega), Nat.one_mul]) dX3_judged_67 ?_
          refine lv_iconst (v := nI 1) hx hb dX3_judged_68 (by decide) ?_
          refine x_iald hx hb hK mm_s0 (by omega) (by decide) dX3_judged_69 ?_
          refine x_rw (z := (nI ((tk L 1).length))) (hfm_s0 _ (by omega)) ?_
          refine x_if_neN (tgt := 77) hx hb (by omega) dX3_judged_70 (by decide) (fun c70 => ?_) (fun c70 => ?_)
          · refine lv_iconst (v := (-1)) hx hb dX3_judged_77 (by decide) ?_
            refine x_iast hx hb hK hz13 (by omega) (by decide) hS (by unfold gA; omega) dX3_judged_78 (fun H15 locs hz13 hF hz hS => ?_)
            have hO := hO.fr hF (by omega)
            have m13 := m13.fr hF (by omega)
            have mm_s0 := mm_s0.fr hF (by omega)
            have mm_s1 := mm_s1.fr hF (by omega)
            refine lv_dup hx hb dX3_judged_79 rfl ?_
            refine lv_iconst (v := nI 1) hx hb dX3_judged_80 (by decide) ?_
            refine lv_iconst (v := nI 1) hx hb dX3_judged_81 (by decide) ?_
            refine x_iast hx hb hK hz13 (by omega) (by decide) hS (by unfold gA; omega) dX3_judged_82 (fun H16 locs hz13 hF hz hS => ?_)
            have hO := hO.fr hF (by omega)
            have m13 := m13.fr hF (by omega)
            have mm_s0 := mm_s0.fr hF (by omega)
            have mm_s1 := mm_s1.fr hF (by omega)
            exact x_aret hx hb hr (by first | exact Or.inl ⟨_, rfl⟩ | exact Or.inr ⟨_, rfl⟩) hlocks h0 hS (by omega) (by omega) dX3_judged_83 (⟨hz0_z13, _, hz13, by have hj := jd_lo c7 (by omega) (by omega); exact ⟨hj.1, hj.2⟩⟩)
          · omega
    · refine lv_iconst (v := nI 1) hx hb dX3_judged_33 (by decide) ?_
      refine lv_goto (tgt := 38) hx hb dX3_judged_34 (by decide) ?_
      refine lv_aload_n hx hb dX3_judged_38 rfl (lv_at hl 1 rfl) ?_
      refine x_get (ci := 3) hx hb hts hown hK rfl hw1 5 (by decide) hw0 hO rfl dX3_judged_39 ?_
      refine lv_iconst (v := nI 1) hx hb dX3_judged_42 (by decide) ?_
      refine x_aald (k := 3) (v := (y + 14 + 1)) hx hb hK (by decide) rfl m13 (by omega) (by decide) (by rw [rwk_at (by omega), Nat.one_mul]) dX3_judged_43 ?_
      refine lv_iconst (v := nI 1) hx hb dX3_judged_44 (by decide) ?_
      refine x_iald hx hb hK mm_s1 (by omega) (by decide) dX3_judged_45 ?_
      refine x_rw (z := (nI ((tk P 1).length))) (hfm_s1 _ (by omega)) ?_
      refine x_if_neN (tgt := 53) hx hb (by omega) dX3_judged_46 (by decide) (fun c46 => ?_) (fun c46 => ?_)
      · refine lv_iconst (v := nI 0) hx hb dX3_judged_53 (by decide) ?_
        refine x_icmp_eq (tgt := 84) hx hb (by omega) (by omega) dX3_judged_54 (by decide) (fun c54 => ?_) (fun c54 => ?_)
        · exact absurd c54 (by decide)
        · refine lv_iconst (v := nI 2) hx hb dX3_judged_57 (by decide) ?_
          refine x_newI (n := 2) hx hb hK hS hw2 (by decide) (Nat.le_of_ble_eq_true rfl) (Nat.le_of_ble_eq_true rfl) dX3_judged_58 (fun z17 H18 hze_z17 hz0_z17 hz17 hF hz_z17 hS => ?_)
          have hlt_hO := hO.lt
          have hlt_m13 := m13.lt
          have hlt_mm_s0 := mm_s0.lt
          have hlt_mm_s1 := mm_s1.lt
          have hO := hO.fr hF (by omega)
          have m13 := m13.fr hF (by omega)
          have mm_s0 := mm_s0.fr hF (by omega)
          have mm_s1 := mm_s1.fr hF (by omega)
          refine lv_dup hx hb dX3_judged_60 rfl ?_
          refine lv_iconst (v := nI 0) hx hb dX3_judged_61 (by decide) ?_
          refine lv_aload_n hx hb dX3_judged_62 rfl (lv_at hl 1 rfl) ?_
          refine x_get (ci := 3) hx hb hts hown hK rfl hw1 5 (by decide) hw0 hO rfl dX3_judged_63 ?_
          refine lv_iconst (v := nI 0) hx hb dX3_judged_66 (by decide) ?_
          refine x_aald (k := 3) (v := (y + 14 + 0)) hx hb hK (by decide) rfl m13 (by omega) (by decide) (by rw [rwk_at (by omega), Nat.one_mul]) dX3_judged_67 ?_
          refine lv_iconst (v := nI 1) hx hb dX3_judged_68 (by decide) ?_
          refine x_iald hx hb hK mm_s0 (by omega) (by decide) dX3_judged_69 ?_
          refine x_rw (z := (nI ((tk L 1).length))) (hfm_s0 _ (by omega)) ?_
          refine x_if_neN (tgt := 77) hx hb (by omega) dX3_judged_70 (by decide) (fun c70 => ?_) (fun c70 => ?_)
          · omega
          · refine lv_iconst (v := nI 1) hx hb dX3_judged_73 (by decide) ?_
            refine lv_goto (tgt := 78) hx hb dX3_judged_74 (by decide) ?_
            refine x_iast hx hb hK hz17 (by omega) (by decide) hS (by unfold gA; omega) dX3_judged_78 (fun H19 locs hz17 hF hz hS => ?_)
            have hO := hO.fr hF (by omega)
            have m13 := m13.fr hF (by omega)
            have mm_s0 := mm_s0.fr hF (by omega)
            have mm_s1 := mm_s1.fr hF (by omega)
            refine lv_dup hx hb dX3_judged_79 rfl ?_
            refine lv_iconst (v := nI 1) hx hb dX3_judged_80 (by decide) ?_
            refine lv_iconst (v := nI 1) hx hb dX3_judged_81 (by decide) ?_
            refine x_iast hx hb hK hz17 (by omega) (by decide) hS (by unfold gA; omega) dX3_judged_82 (fun H20 locs hz17 hF hz hS => ?_)
            have hO := hO.fr hF (by omega)
            have m13 := m13.fr hF (by omega)
            have mm_s0 := mm_s0.fr hF (by omega)
            have mm_s1 := mm_s1.fr hF (by omega)
            exact x_aret hx hb hr (by first | exact Or.inl ⟨_, rfl⟩ | exact Or.inr ⟨_, rfl⟩) hlocks h0 hS (by omega) (by omega) dX3_judged_83 (⟨hz0_z17, _, hz17, by have hj := jd_hi c7 (by omega) (by omega); exact ⟨hj.1, hj.2⟩⟩)
      · refine lv_iconst (v := nI 1) hx hb dX3_judged_49 (by decide) ?_
        refine lv_goto (tgt := 54) hx hb dX3_judged_50 (by decide) ?_
        refine x_icmp_eq (tgt := 84) hx hb (by omega) (by omega) dX3_judged_54 (by decide) (fun c54 => ?_) (fun c54 => ?_)
        · have hsm := jd_same (L := L) (P := P) (by first | exact Or.inl ⟨by omega, by omega⟩ | exact Or.inr ⟨by omega, by omega⟩)
          refine lv_aload_n hx hb dX3_judged_84 rfl (lv_at hl 1 rfl) ?_
          refine lv_iconst (v := nI 1) hx hb dX3_judged_85 (by decide) ?_
          refine x_goI_ro (x_runV (As := [.int (nI 1)]) (rest := []) ⟨hx, hb, hml, hown, hts⟩ hE h0 hS (c_X3_rows l G y n th w a z L P hwa hwz hJ hJ2 1 (by decide) H0 hO hLA hT hT2) (cwV 1 hts gX3_judged_X3_rows rfl rfl rfl (by decide +kernel) ⟨Nat.le_of_ble_eq_true rfl, Nat.le_of_ble_eq_true rfl⟩) (gO.recv (C := RX3) hK hO rfl) (by omega) rfl rfl hl.1 rfl (lv_room (Nat.le_of_ble_eq_true rfl)) dX3_judged_86 ⟨by first | exact Nat.le_of_ble_eq_true rfl | omega, by first | exact Nat.le_of_ble_eq_true rfl | omega⟩) hS (by omega) (fun _ _ _ _ _ h => h.elim) (fun locs hq hS => ?_)
          refine lv_istore_n (lv' := [(1, .int (rz L P 1)), (0, .ref y)]) hx hb dX3_judged_89 rfl hl (by decide) rfl (fun ls hl => ?_)
          refine lv_iload_n hx hb dX3_judged_90 rfl (lv_at hl 0 rfl) ?_
          refine lv_if_eq (tgt := 106) hx hb dX3_judged_91 (by decide) (fun c91 => ?_) (fun c91 => ?_)
          · refine lv_aload_n hx hb dX3_judged_106 rfl (lv_at hl 1 rfl) ?_
            refine lv_iconst (v := nI 2) hx hb dX3_judged_107 (by decide) ?_
            refine x_goI_ro (x_runV (As := [.int (nI 2)]) (rest := []) ⟨hx, hb, hml, hown, hts⟩ hE h0 hS (c_X3_rows l G y n th w a z L P hwa hwz hJ hJ2 2 (by decide) H0 hO hLA hT hT2) (cwV 1 hts gX3_judged_X3_rows rfl rfl rfl (by decide +kernel) ⟨Nat.le_of_ble_eq_true rfl, Nat.le_of_ble_eq_true rfl⟩) (gO.recv (C := RX3) hK hO rfl) (by omega) rfl rfl hl.1 rfl (lv_room (Nat.le_of_ble_eq_true rfl)) dX3_judged_108 ⟨by first | exact Nat.le_of_ble_eq_true rfl | omega, by first | exact Nat.le_of_ble_eq_true rfl | omega⟩) hS (by omega) (fun _ _ _ _ _ h => h.elim) (fun locs hq hS => ?_)
            refine lv_istore_n (lv' := [(1, .int (rz L P 2)), (0, .ref y)]) hx hb dX3_judged_111 rfl hl (by decide) rfl (fun ls hl => ?_)
            refine lv_iconst (v := nI 2) hx hb dX3_judged_112 (by decide) ?_
            refine x_newI (n := 2) hx hb hK hS hw2 (by decide) (Nat.le_of_ble_eq_true rfl) (Nat.le_of_ble_eq_true rfl) dX3_judged_113 (fun z23 H24 hze_z23 hz0_z23 hz23 hF hz_z23 hS => ?_)
            have hlt_hO := hO.lt
            have hlt_m13 := m13.lt
            have hlt_mm_s0 := mm_s0.lt
            have hlt_mm_s1 := mm_s1.lt
            have hO := hO.fr hF (by omega)
            have m13 := m13.fr hF (by omega)
            have mm_s0 := mm_s0.fr hF (by omega)
            have mm_s1 := mm_s1.fr hF (by omega)
            refine lv_dup hx hb dX3_judged_115 rfl ?_
            refine lv_iconst (v := nI 0) hx hb dX3_judged_116 (by decide) ?_
            refine lv_iload_n hx hb dX3_judged_117 rfl (lv_at hl 0 rfl) ?_
            refine x_iast hx hb hK hz23 (by omega) (by decide) hS (by unfold gA; omega) dX3_judged_118 (fun H25 locs hz23 hF hz hS => ?_)
            have hO := hO.fr hF (by omega)
            have m13 := m13.fr hF (by omega)
            have mm_s0 := mm_s0.fr hF (by omega)
            have mm_s1 := mm_s1.fr hF (by omega)
            refine lv_dup hx hb dX3_judged_119 rfl ?_
            refine lv_iconst (v := nI 1) hx hb dX3_judged_120 (by decide) ?_
            refine lv_iload_n hx hb dX3_judged_121 rfl (lv_at hl 0 rfl) ?_
            refine lv_if_ne (tgt := 129) hx hb dX3_judged_122 (by decide) (fun c122 => ?_) (fun c122 => ?_)
            · refine lv_iconst (v := nI 2) hx hb dX3_judged_129 (by decide) ?_
              refine x_iast hx hb hK hz23 (by omega) (by decide) hS (by unfold gA; omega) dX3_judged_130 (fun H26 locs hz23 hF hz hS => ?_)
              have hO := hO.fr hF (by omega)
              have m13 := m13.fr hF (by omega)
              have mm_s0 := mm_s0.fr hF (by omega)
              have mm_s1 := mm_s1.fr hF (by omega)
              exact x_aret hx hb hr (by first | exact Or.inl ⟨_, rfl⟩ | exact Or.inr ⟨_, rfl⟩) hlocks h0 hS (by omega) (by omega) dX3_judged_131 (⟨hz0_z23, _, hz23, by have hj := jd_2 c7 (hsm.trans c91); rw [if_neg c122] at hj; exact ⟨hj.1, hj.2⟩⟩)
            · refine lv_iconst (v := (-1)) hx hb dX3_judged_125 (by decide) ?_
              refine lv_goto (tgt := 130) hx hb dX3_judged_126 (by decide) ?_
              refine x_iast hx hb hK hz23 (by omega) (by decide) hS (by unfold gA; omega) dX3_judged_130 (fun H27 locs hz23 hF hz hS => ?_)
              have hO := hO.fr hF (by omega)
              have m13 := m13.fr hF (by omega)
              have mm_s0 := mm_s0.fr hF (by omega)
              have mm_s1 := mm_s1.fr hF (by omega)
              exact x_aret hx hb hr (by first | exact Or.inl ⟨_, rfl⟩ | exact Or.inr ⟨_, rfl⟩) hlocks h0 hS (by omega) (by omega) dX3_judged_131 (⟨hz0_z23, _, hz23, by have hj := jd_2 c7 (hsm.trans c91); rw [if_pos c122] at hj; exact ⟨hj.1, hj.2⟩⟩)
          · refine lv_iconst (v := nI 2) hx hb dX3_judged_94 (by decide) ?_
            refine x_newI (n := 2) hx hb hK hS hw2 (by decide) (Nat.le_of_ble_eq_true rfl) (Nat.le_of_ble_eq_true rfl) dX3_judged_95 (fun z28 H29 hze_z28 hz0_z28 hz28 hF hz_z28 hS => ?_)
            have hlt_hO := hO.lt
            have hlt_m13 := m13.lt
            have hlt_mm_s0 := mm_s0.lt
            have hlt_mm_s1 := mm_s1.lt
            have hO := hO.fr hF (by omega)
            have m13 := m13.fr hF (by omega)
            have mm_s0 := mm_s0.fr hF (by omega)
            have mm_s1 := mm_s1.fr hF (by omega)
            refine lv_dup hx hb dX3_judged_97 rfl ?_
            refine lv_iconst (v := nI 0) hx hb dX3_judged_98 (by decide) ?_
            refine lv_iload_n hx hb dX3_judged_99 rfl (lv_at hl 0 rfl) ?_
            refine x_iast hx hb hK hz28 (by omega) (by decide) hS (by unfold gA; omega) dX3_judged_100 (fun H30 locs hz28 hF hz hS => ?_)
            have hO := hO.fr hF (by omega)
            have m13 := m13.fr hF (by omega)
            have mm_s0 := mm_s0.fr hF (by omega)
            have mm_s1 := mm_s1.fr hF (by omega)
            refine lv_dup hx hb dX3_judged_101 rfl ?_
            refine lv_iconst (v := nI 1) hx hb dX3_judged_102 (by decide) ?_
            refine lv_iconst (v := nI 1) hx hb dX3_judged_103 (by decide) ?_
            refine x_iast hx hb hK hz28 (by omega) (by decide) hS (by unfold gA; omega) dX3_judged_104 (fun H31 locs hz28 hF hz hS => ?_)
            have hO := hO.fr hF (by omega)
            have m13 := m13.fr hF (by omega)
            have mm_s0 := mm_s0.fr hF (by omega)
            have mm_s1 := mm_s1.fr hF (by omega)
            exact x_aret hx hb hr (by first | exact Or.inl ⟨_, rfl⟩ | exact Or.inr ⟨_, rfl⟩) hlocks h0 hS (by omega) (by omega) dX3_judged_105 (⟨hz0_z28, _, hz28, by have hj := jd_1 c7 hsm c91; exact ⟨hj.1, hj.2⟩⟩)
        · exact absurd c54 (by decide)
  · refine lv_iconst (v := nI 2) hx hb dX3_judged_10 (by decide) ?_
    refine x_newI (n := 2) hx hb hK hS hw2 (by decide) (Nat.le_of_ble_eq_true rfl) (Nat.le_of_ble_eq_true rfl) dX3_judged_11 (fun z32 H33 hze_z32 hz0_z32 hz32 hF hz_z32 hS => ?_)
    have hlt_hO := hO.lt
    have hlt_m13 := m13.lt
    have hlt_mm_s0 := mm_s0.lt
    have hlt_mm_s1 := mm_s1.lt
    have hO := hO.fr hF (by omega)
    have m13 := m13.fr hF (by omega)
    have mm_s0 := mm_s0.fr hF (by omega)
    have mm_s1 := mm_s1.fr hF (by omega)
    refine lv_dup hx hb dX3_judged_13 rfl ?_
    refine lv_iconst (v := nI 0) hx hb dX3_judged_14 (by decide) ?_
    refine lv_iload_n hx hb dX3_judged_15 rfl (lv_at hl 0 rfl) ?_
    refine x_iast hx hb hK hz32 (by omega) (by decide) hS (by unfold gA; omega) dX3_judged_16 (fun H34 locs hz32 hF hz hS => ?_)
    have hO := hO.fr hF (by omega)
    have m13 := m13.fr hF (by omega)
    have mm_s0 := mm_s0.fr hF (by omega)
    have mm_s1 := mm_s1.fr hF (by omega)
    refine lv_dup hx hb dX3_judged_17 rfl ?_
    refine lv_iconst (v := nI 1) hx hb dX3_judged_18 (by decide) ?_
    refine lv_iconst (v := nI 0) hx hb dX3_judged_19 (by decide) ?_
    refine x_iast hx hb hK hz32 (by omega) (by decide) hS (by unfold gA; omega) dX3_judged_20 (fun H35 locs hz32 hF hz hS => ?_)
    have hO := hO.fr hF (by omega)
    have m13 := m13.fr hF (by omega)
    have mm_s0 := mm_s0.fr hF (by omega)
    have mm_s1 := mm_s1.fr hF (by omega)
    exact x_aret hx hb hr (by first | exact Or.inl ⟨_, rfl⟩ | exact Or.inr ⟨_, rfl⟩) hlocks h0 hS (by omega) (by omega) dX3_judged_21 (⟨hz0_z32, _, hz32, by have hj := jd_0 (L := L) (P := P) c7; exact ⟨hj.1, hj.2⟩⟩)

abbrev RMX3_look_ : Room := { frames := 3, cells := 0, slots := 0, locals := 59 }
set_option maxHeartbeats 4000000 in
set_option maxRecDepth 100000 in
theorem c_X3_look_ (l : Launch) (G : gG) (y T : Nat) (L : List Nat) (txt : Nat → List Nat) (tad : Nat → Nat) (th : Int32) (w : Wt) (sd : Nat) (hsd : sd < 2) (i : Nat) (hi8 : i < 8) (H0 : Heap) (hMT : MT G y T L txt tad th H0) (hLA : LA G y w H0) : XM l yX3_look_ wsX3_look_ RMX3_look_ G [.ref y, .int (nI sd), .int (nI i)] H0 (y + 12) (y + 34) 0 0 (qV (fun H1 => LA G y (wset w sd (tad i, tk (txt i))) H1)) xN := by
  refine x_ofW (cc := cX3_look_) (maxL := 3) (ret := none) (by decide) rfl (Nat.le_of_ble_eq_true rfl) ?_
  intro p e s m below meth c hx hb hr hml hown hts hlocks hout hin2 h0 hE ls hl
  replace hown : s.vm.findClass RX3 = some m.cls := hown
  have hK := hE.1
  have hS : va_S (gA (y + 12) (y + 34) H0.size) H0 H0 [] := va_S.rf
  generalize hargs : ([.ref y, .int (nI sd), .int (nI i)] : List Value).toArray = args at hts ⊢
  have hw0 := hts (.fieldLink RX3 15 "ReleaseledgerModel" "texts" "[[C") (by decide +kernel)
  have hw1 : ∀ w ∈ u_ws RX3 TX3 9, w ∈ wsX3_look_ := by decide +kernel
  have hw2 := hts (.fieldLink RX3 18 "ReleaseledgerModel" "sizes" "[I") (by decide +kernel)
  have hl : lv_has ls 3 [(0, .ref y), (1, .int (nI sd)), (2, .int (nI i))] := hl
  obtain ⟨hO, hTd, ⟨f2, hf2, hf2b⟩, ⟨f11, hf11, hf11b⟩, htx, hLd, hyT, hTs⟩ := id hMT
  have hrg := hMT.rg hi8
  refine lv_aload_n hx hb dX3_look__0 rfl (lv_at hl 0 rfl) ?_
  refine lv_iload_n hx hb dX3_look__1 rfl (lv_at hl 1 rfl) ?_
  refine lv_aload_n hx hb dX3_look__2 rfl (lv_at hl 0 rfl) ?_
  refine x_get (ci := 3) hx hb hts hown hK rfl hw1 2 (by decide) hw0 hO rfl dX3_look__3 ?_
  refine lv_iload_n hx hb dX3_look__6 rfl (lv_at hl 2 rfl) ?_
  refine x_aald (k := 4) (v := (tad i)) hx hb hK (by decide) rfl hf2 (by omega) (by decide) (hf2b _ (by omega)) dX3_look__7 ?_
  refine lv_aload_n hx hb dX3_look__8 rfl (lv_at hl 0 rfl) ?_
  refine x_get (ci := 3) hx hb hts hown hK rfl hw1 3 (by decide) hw2 hO rfl dX3_look__9 ?_
  refine lv_iload_n hx hb dX3_look__12 rfl (lv_at hl 2 rfl) ?_
  refine x_iald hx hb hK hf11 (by omega) (by decide) dX3_look__13 ?_
  refine x_rw (z := (nI ((txt i).length))) (hf11b _ (by omega)) ?_
  refine x_goV (x_runV (As := [.int (nI sd), .ref (tad i), .int (nI ((txt i).length))]) (rest := []) ⟨hx, hb, hml, hown, hts⟩ hE h0 hS (c_X3_look l G y (nI L.length) th w sd hsd (tad i) (txt i) (by omega) (by omega) H0 hO hLA (hMT.tx hi8)) (cwV 3 hts gX3_look__X3_look rfl rfl rfl (by decide +kernel) ⟨Nat.le_of_ble_eq_true rfl, Nat.le_of_ble_eq_true rfl⟩) (gO.recv (C := RX3) hK hO rfl) (by omega) rfl rfl hl.1 rfl (lv_room (Nat.le_of_ble_eq_true rfl)) dX3_look__14 ⟨by first | exact Nat.le_of_ble_eq_true rfl | omega, by first | exact Nat.le_of_ble_eq_true rfl | omega⟩) hS (by omega) (fun _ _ _ _ _ h => h.elim) (fun  H1 locs hq hF hS => ?_)
  have hO := hO.fr hF (by omega)
  have hf2 := hf2.fr hF (by omega)
  have hf11 := hf11.fr hF (by omega)
  exact x_vret hx hb hr hlocks h0 hS (by omega) (by omega) dX3_look__17 (hq)

abbrev RMX3_order : Room := { frames := 5, cells := 1, slots := 2, locals := 102 }
set_option maxHeartbeats 4000000 in
set_option maxRecDepth 100000 in
theorem c_X3_order (l : Launch) (G : gG) (y T : Nat) (L : List Nat) (txt : Nat → List Nat) (tad : Nat → Nat) (th : Int32) (w : Wt) (i j : Nat) (hi8 : i < 8) (hj8 : j < 8) (H0 : Heap) (hMT : MT G y T L txt tad th H0) (hLA : LA G y w H0) : XM l yX3_order wsX3_order RMX3_order G [.ref y, .int (nI i), .int (nI j)] H0 (y + 12) (y + 34) 1 2 (qI (fun r H1 => r = ordr (txt i) (txt j) ∧ ∃ w : Wt, LA G y w H1)) xN := by
  refine x_ofW (cc := cX3_order) (maxL := 3) (ret := (some .int)) (by decide) rfl (Nat.le_of_ble_eq_true rfl) ?_
  intro p e s m below meth c hx hb hr hml hown hts hlocks hout hin2 h0 hE ls hl
  replace hown : s.vm.findClass RX3 = some m.cls := hown
  have hK := hE.1
  have hS : va_S (gA (y + 12) (y + 34) H0.size) H0 H0 [] := va_S.rf
  generalize hargs : ([.ref y, .int (nI i), .int (nI j)] : List Value).toArray = args at hts ⊢
  have hl : lv_has ls 3 [(0, .ref y), (1, .int (nI i)), (2, .int (nI j))] := hl
  have hO := hMT.O
  have hyT := hMT.T
  refine lv_aload_n hx hb dX3_order_0 rfl (lv_at hl 0 rfl) ?_
  refine lv_iconst (v := nI 0) hx hb dX3_order_1 (by decide) ?_
  refine lv_iload_n hx hb dX3_order_2 rfl (lv_at hl 1 rfl) ?_
  refine x_goV (x_runV (As := [.int (nI 0), .int (nI i)]) (rest := []) ⟨hx, hb, hml, hown, hts⟩ hE h0 hS (c_X3_look_ l G y T L txt tad th w 0 (by decide) i (by omega) H0 hMT hLA) (cwV 2 hts gX3_order_X3_look_ rfl rfl rfl (by decide +kernel) ⟨Nat.le_of_ble_eq_true rfl, Nat.le_of_ble_eq_true rfl⟩) (gO.recv (C := RX3) hK hO rfl) (by omega) rfl rfl hl.1 rfl (lv_room (Nat.le_of_ble_eq_true rfl)) dX3_order_3 ⟨by first | exact Nat.le_of_ble_eq_true rfl | omega, by first | exact Nat.le_of_ble_eq_true rfl | omega⟩) hS (by omega) (fun _ _ _ _ _ h => h.elim) (fun  H1 locs hq hF hS => ?_)
  have hO := hO.fr hF (by omega)
  have hMT := hMT.fr hF (by omega)
  have hLA := hq
  refine lv_aload_n hx hb dX3_order_6 rfl (lv_at hl 0 rfl) ?_
  refine lv_iconst (v := nI 1) hx hb dX3_order_7 (by decide) ?_
  refine lv_iload_n hx hb dX3_order_8 rfl (lv_at hl 2 rfl) ?_
  refine x_goV (x_runV (As := [.int (nI 1), .int (nI j)]) (rest := []) ⟨hx, hb, hml, hown, hts⟩ hE h0 hS (c_X3_look_ l G y T L txt tad th (wset w 0 (tad i, tk (txt i))) 1 (by decide) j (by omega) H1 hMT hLA) (cwV 2 hts gX3_order_X3_look_ rfl rfl rfl (by decide +kernel) ⟨Nat.le_of_ble_eq_true rfl, Nat.le_of_ble_eq_true rfl⟩) (gO.recv (C := RX3) hK hO rfl) (by omega) rfl rfl hl.1 rfl (lv_room (Nat.le_of_ble_eq_true rfl)) dX3_order_9 ⟨by first | exact Nat.le_of_ble_eq_true rfl | omega, by first | exact Nat.le_of_ble_eq_true rfl | omega⟩) hS (by omega) (fun _ _ _ _ _ h => h.elim) (fun  H2 locs hq hF hS => ?_)
  have hO := hO.fr hF (by omega)
  have hMT := hMT.fr hF (by omega)
  have hLA := hq
  refine lv_aload_n hx hb dX3_order_12 rfl (lv_at hl 0 rfl) ?_
  refine x_goR (x_runV (As := []) (rest := []) ⟨hx, hb, hml, hown, hts⟩ hE h0 hS (c_X3_judged l G y (nI L.length) th (wset (wset w 0 (tad i, tk (txt i))) 1 (tad j, tk (txt j))) (tad i) (tad j) (txt i) (txt j) (by rw [wset_ne (by decide)]; exact wset_self) wset_self (hMT.gt hi8).J (hMT.gt hj8).J H2 hO hLA (hMT.tx hi8) (hMT.tx hj8)) (cwV 0 hts gX3_order_X3_judged rfl rfl rfl (by decide +kernel) ⟨Nat.le_of_ble_eq_true rfl, Nat.le_of_ble_eq_true rfl⟩) (gO.recv (C := RX3) hK hO rfl) (by omega) rfl rfl hl.1 rfl (lv_room (Nat.le_of_ble_eq_true rfl)) dX3_order_13 ⟨by first | exact Nat.le_of_ble_eq_true rfl | omega, by first | exact Nat.le_of_ble_eq_true rfl | omega⟩) hS (by omega) (fun _ _ _ _ _ h => h.elim) (fun r4 H3 locs hq hF hS => ?_)
  have hO := hO.fr hF (by omega)
  have hMT := hMT.fr hF (by omega)
  have hLA := hLA.fr hF (by omega)
  obtain ⟨hr0, fr_, hfr, hfr0, hfr1⟩ := hq
  refine lv_iconst (v := nI 0) hx hb dX3_order_16 (by decide) ?_
  refine x_iald hx hb hK hfr (by omega) (by decide) dX3_order_17 ?_
  refine x_rw (z := (ordr (txt i) (txt j))) hfr0 ?_
  exact x_iret hx hb hr hlocks h0 hS (by omega) (by omega) dX3_order_18 (⟨rfl, _, hLA⟩)

abbrev RMX3_lay : Room := { frames := 5, cells := 2, slots := 62, locals := 102 }
set_option maxHeartbeats 4000000 in
set_option maxRecDepth 100000 in
/-- a text into a slot -/
theorem c_X3_lay (l : Launch) (G : gG) (y T : Nat) (L : List Nat) (txt : Nat → List Nat) (tad : Nat → Nat) (th : Int32) (w : Wt) (i : Nat) (hi8 : i < 8) (a : Nat) (P : List Nat) (gP : Gt P) (har : a < y + 12 ∨ y + 34 ≤ a) (hya : y ≠ a) (H0 : Heap) (hMT : MT G y T L txt tad th H0) (hLA : LA G y w H0) (hT : TA G a P H0) : XM l yX3_lay wsX3_lay RMX3_lay G [.ref y, .int (nI i), .ref a, .int (nI P.length)] H0 y (y + 34) 2 62 (qI (fun r H1 => r = ordr P (txt i) ∧ MW G y L (up txt i P) th H1)) xN := by
  refine x_ofW (cc := cX3_lay) (maxL := 7) (ret := (some .int)) (by decide) rfl (Nat.le_of_ble_eq_true rfl) ?_
  intro p e s m below meth c hx hb hr hml hown hts hlocks hout hin2 h0 hE ls hl
  replace hown : s.vm.findClass RX3 = some m.cls := hown
  have hK := hE.1
  have hS : va_S (gA y (y + 34) H0.size) H0 H0 [] := va_S.rf
  generalize hargs : ([.ref y, .int (nI i), .ref a, .int (nI P.length)] : List Value).toArray = args at hts ⊢
  have hw0 := hts (.arrayClass .char) (by decide +kernel)
  have hw1 := hts (.fieldLink RX3 15 "ReleaseledgerModel" "texts" "[[C") (by decide +kernel)
  have hw2 : ∀ w ∈ u_ws RX3 TX3 9, w ∈ wsX3_lay := by decide +kernel
  have hw3 := hts (.fieldLink RX3 18 "ReleaseledgerModel" "sizes" "[I") (by decide +kernel)
  have hl : lv_has ls 7 [(0, .ref y), (1, .int (nI i)), (2, .ref a), (3, .int (nI P.length))] := hl
  obtain ⟨hO, hTd, ⟨f2, hf2, hf2b⟩, ⟨f11, hf11, hf11b⟩, htx, hLd, hyT, hTs⟩ := id hMT
  have hP60 := gP.le
  have haT := hT.lt
  refine lv_aload_n hx hb dX3_lay_0 rfl (lv_at hl 0 rfl) ?_
  refine lv_iconst (v := nI 0) hx hb dX3_lay_1 (by decide) ?_
  refine lv_aload_n hx hb dX3_lay_2 rfl (lv_at hl 2 rfl) ?_
  refine lv_iload_n hx hb dX3_lay_3 rfl (lv_at hl 3 rfl) ?_
  refine x_goV (x_runV (As := [.int (nI 0), .ref a, .int (nI P.length)]) (rest := []) ⟨hx, hb, hml, hown, hts⟩ hE h0 hS (c_X3_look l G y (nI L.length) th w 0 (by decide) a P har hya H0 hO hLA hT) (cwV 3 hts gX3_lay_X3_look rfl rfl rfl (by decide +kernel) ⟨Nat.le_of_ble_eq_true rfl, Nat.le_of_ble_eq_true rfl⟩) (gO.recv (C := RX3) hK hO rfl) (by omega) rfl rfl hl.1 rfl (lv_room (Nat.le_of_ble_eq_true rfl)) dX3_lay_4 ⟨by first | exact Nat.le_of_ble_eq_true rfl | omega, by first | exact Nat.le_of_ble_eq_true rfl | omega⟩) hS (by omega) (fun _ _ _ _ _ h => h.elim) (fun  H1 locs hq hF hS => ?_)
  have hO := hO.fr hF (by omega)
  have hf2 := hf2.fr hF (by omega)
  have hf11 := hf11.fr hF (by omega)
  have hMT := hMT.fr hF (by omega)
  have hT := hT.fr hF (by omega)
  have hLA := hq
  refine lv_aload_n hx hb dX3_lay_7 rfl (lv_at hl 0 rfl) ?_
  refine lv_iconst (v := nI 1) hx hb dX3_lay_8 (by decide) ?_
  refine lv_iload_n hx hb dX3_lay_9 rfl (lv_at hl 1 rfl) ?_
  refine x_goV (x_runV (As := [.int (nI 1), .int (nI i)]) (rest := []) ⟨hx, hb, hml, hown, hts⟩ hE h0 hS (c_X3_look_ l G y T L txt tad th (wset w 0 (a, tk P)) 1 (by decide) i (by omega) H1 hMT hLA) (cwV 2 hts gX3_lay_X3_look_ rfl rfl rfl (by decide +kernel) ⟨Nat.le_of_ble_eq_true rfl, Nat.le_of_ble_eq_true rfl⟩) (gO.recv (C := RX3) hK hO rfl) (by omega) rfl rfl hl.1 rfl (lv_room (Nat.le_of_ble_eq_true rfl)) dX3_lay_10 ⟨by first | exact Nat.le_of_ble_eq_true rfl | omega, by first | exact Nat.le_of_ble_eq_true rfl | omega⟩) hS (by omega) (fun _ _ _ _ _ h => h.elim) (fun  H2 locs hq hF hS => ?_)
  have hO := hO.fr hF (by omega)
  have hf2 := hf2.fr hF (by omega)
  have hf11 := hf11.fr hF (by omega)
  have hMT := hMT.fr hF (by omega)
  have hT := hT.fr hF (by omega)
  have hLA := hq
  refine lv_aload_n hx hb dX3_lay_13 rfl (lv_at hl 0 rfl) ?_
  refine x_goR (x_runV (As := []) (rest := []) ⟨hx, hb, hml, hown, hts⟩ hE h0 hS (c_X3_judged l G y (nI L.length) th (wset (wset w 0 (a, tk P)) 1 (tad i, tk (txt i))) a (tad i) P (txt i) (by rw [wset_ne (by decide)]; exact wset_self) wset_self gP.J (hMT.gt hi8).J H2 hO hLA hT (hMT.tx hi8)) (cwV 0 hts gX3_lay_X3_judged rfl rfl rfl (by decide +kernel) ⟨Nat.le_of_ble_eq_true rfl, Nat.le_of_ble_eq_true rfl⟩) (gO.recv (C := RX3) hK hO rfl) (by omega) rfl rfl hl.1 rfl (lv_room (Nat.le_of_ble_eq_true rfl)) dX3_lay_14 ⟨by first | exact Nat.le_of_ble_eq_true rfl | omega, by first | exact Nat.le_of_ble_eq_true rfl | omega⟩) hS (by omega) (fun _ _ _ _ _ h => h.elim) (fun r4 H3 locs hq hF hS => ?_)
  have hO := hO.fr hF (by omega)
  have hf2 := hf2.fr hF (by omega)
  have hf11 := hf11.fr hF (by omega)
  have hMT := hMT.fr hF (by omega)
  have hLA := hLA.fr hF (by omega)
  have hT := hT.fr hF (by omega)
  obtain ⟨hr0, fr_, hfr, hfr0, hfr1⟩ := hq
  refine lv_iconst (v := nI 0) hx hb dX3_lay_17 (by decide) ?_
  refine x_iald hx hb hK hfr (by omega) (by decide) dX3_lay_18 ?_
  refine x_rw (z := (ordr P (txt i))) hfr0 ?_
  refine lv_istore (lv' := [(4, .int (ordr P (txt i))), (0, .ref y), (1, .int (nI i)), (2, .ref a), (3, .int (nI P.length))]) hx hb dX3_lay_19 hl (by decide) rfl (fun ls hl => ?_)
  refine lv_bipush (v := nI 60) hx hb dX3_lay_21 (by decide) ?_
  refine x_newC (n := 60) hx hb hK hS hw0 (by decide) (Nat.le_of_ble_eq_true rfl) (Nat.le_of_ble_eq_true rfl) dX3_lay_23 (fun zq H5 hze_zq hz0_zq hzq hF hz_zq hS => ?_)
  have hlt_hO := hO.lt
  have hlt_hf2 := hf2.lt
  have hlt_hf11 := hf11.lt
  have hO := hO.fr hF (by omega)
  have hf2 := hf2.fr hF (by omega)
  have hf11 := hf11.fr hF (by omega)
  have hMT := hMT.fr hF (by omega)
  have hLA := hLA.fr hF (by omega)
  have hT := hT.fr hF (by omega)
  refine lv_astore (lv' := [(5, .ref zq), (4, .int (ordr P (txt i))), (0, .ref y), (1, .int (nI i)), (2, .ref a), (3, .int (nI P.length))]) hx hb dX3_lay_25 hl (by decide) rfl (fun ls hl => ?_)
  refine lv_iconst (v := nI 0) hx hb dX3_lay_27 (by decide) ?_
  refine lv_istore (lv' := [(6, .int (nI 0)), (5, .ref zq), (4, .int (ordr P (txt i))), (0, .ref y), (1, .int (nI i)), (2, .ref a), (3, .int (nI P.length))]) hx hb dX3_lay_28 hl (by decide) rfl (fun ls hl => ?_)
  have loop30 : ∀ (fu : Nat) (k : Nat) (g : Nat → Int32) (hkp : k ≤ P.length) (hcp : ∀ j, j < k → g j = nI (cg P j)) (H : Heap) (locs : List Loc) (hS : va_S (gA y (y + 34) H0.size) H0 H locs) (hO : gO G y 3 [.ref (y + 1), .int (nI L.length), .ref (y + 2), .ref (y + 11), .ref (y + 12), .ref (y + 13), .ref (y + 16), .ref (y + 25), .int th] H) (hf2 : gQ G (y + 2) 4 8 f2 H) (hf11 : gI G (y + 11) 1 8 f11 H) (hzq : gI G zq 0 60 g H) (hMT : MT G y T L txt tad th H) (hLA : LA G y (wset (wset w 0 (a, tk P)) 1 (tad i, tk (txt i))) H) (hT : TA G a P H) (ls : Array Slot), P.length - k < fu → lv_has ls 7 [(6, .int (nI k)), (5, .ref zq), (4, .int (ordr P (txt i))), (3, .int (nI P.length)), (2, .ref a), (1, .int (nI i)), (0, .ref y)] → W p l e RMX3_lay s m args below meth c H locs (0 + 0 + 0 + 1 + 1) (0 + 0 + 0 + 2 + 60) (XQ below args s H0 y (y + 34) 2 62 (qI (fun r H1 => r = ordr P (txt i) ∧ MW G y L (up txt i P) th H1)) xN) (F0 m 30 ls []) := by
    intro fu30
    induction fu30 with
    | zero => intro k g hkp hcp H locs hS hO hf2 hf11 hzq hMT hLA hT ls hmu; exact absurd hmu (Nat.not_lt_zero _)
    | succ fu30 ih30 =>
      intro k g hkp hcp H locs hS hO hf2 hf11 hzq hMT hLA hT ls hmu30 hl
      refine lv_iload hx hb dX3_lay_30 (lv_at hl 0 rfl) ?_
      refine lv_iload_n hx hb dX3_lay_32 rfl (lv_at hl 3 rfl) ?_
      refine x_icmp_ge (tgt := 51) hx hb (by omega) (by omega) dX3_lay_33 (by decide) (fun c33 => ?_) (fun c33 => ?_)
      · have hzT := TA_mk hzq (fun j hj => hcp j (by omega)) gP
        refine lv_aload_n hx hb dX3_lay_51 rfl (lv_at hl 6 rfl) ?_
        refine x_get (ci := 3) hx hb hts hown hK rfl hw2 2 (by decide) hw1 hO rfl dX3_lay_52 ?_
        refine lv_iload_n hx hb dX3_lay_55 rfl (lv_at hl 5 rfl) ?_
        refine lv_aload hx hb dX3_lay_56 (lv_at hl 1 rfl) ?_
        refine x_aastA hx hb hK hE hf2 hzq (by omega) (by decide) hS (by unfold gA; omega) dX3_lay_58 (fun H6 locs hf2 hF hz hS => ?_)
        have hO := hO.fr hF (by omega)
        have hf11 := hf11.fr hF (by omega)
        have hzq := hzq.fr hF (by omega)
        have hLA := hLA.fr hF (by omega)
        have hzT := hzT.fr hF (by omega)
        have f1 := hF
        refine lv_aload_n hx hb dX3_lay_59 rfl (lv_at hl 6 rfl) ?_
        refine x_get (ci := 3) hx hb hts hown hK rfl hw2 3 (by decide) hw3 hO rfl dX3_lay_60 ?_
        refine lv_iload_n hx hb dX3_lay_63 rfl (lv_at hl 5 rfl) ?_
        refine lv_iload_n hx hb dX3_lay_64 rfl (lv_at hl 3 rfl) ?_
        refine x_iast hx hb hK hf11 (by omega) (by decide) hS (by unfold gA; omega) dX3_lay_65 (fun H7 locs hf11 hF hz hS => ?_)
        have hO := hO.fr hF (by omega)
        have hf2 := hf2.fr hF (by omega)
        have hzq := hzq.fr hF (by omega)
        have hLA := hLA.fr hF (by omega)
        have hzT := hzT.fr hF (by omega)
        have hMT2 := hMT.set f1 hF hf2b hf11b hf2 hf11 (by omega) hzT gP
        refine lv_iload hx hb dX3_lay_66 (lv_at hl 2 rfl) ?_
        exact x_iret hx hb hr hlocks h0 hS (by omega) (by omega) dX3_lay_68 (⟨rfl, _, _, hMT2, hLA⟩)
      · refine lv_aload hx hb dX3_lay_36 (lv_at hl 1 rfl) ?_
        refine lv_iload hx hb dX3_lay_38 (lv_at hl 0 rfl) ?_
        refine lv_aload_n hx hb dX3_lay_40 rfl (lv_at hl 4 rfl) ?_
        obtain ⟨ft_a, hTa_a, hTf_a, hTn_a, hTc_a⟩ := id hT
        have hck := hTc_a _ (cg_mem (i := k) (by omega))
        refine lv_iload hx hb dX3_lay_41 (lv_at hl 0 rfl) ?_
        refine x_cald hx hb hK hTa_a (by omega) (by decide) dX3_lay_43 ?_
        refine x_rw (z := (nI (cg P k))) (hTf_a _ (by omega)) ?_
        refine x_cast hx hb hK hzq (by omega) (by decide) (by omega) hS (by unfold gA; omega) dX3_lay_44 (fun H8 locs hzq hF hz hS => ?_)
        have hO := hO.fr hF (by omega)
        have hf2 := hf2.fr hF (by omega)
        have hf11 := hf11.fr hF (by omega)
        have hTa_a := hTa_a.fr hF (by omega)
        have hMT := hMT.fr hF (by omega)
        have hLA := hLA.fr hF (by omega)
        have hT := hT.fr hF (by omega)
        refine lv_iinc (v := nI (k + 1)) (lv' := [(6, .int (nI (k + 1))), (5, .ref zq), (4, .int (ordr P (txt i))), (3, .int (nI P.length)), (2, .ref a), (1, .int (nI i)), (0, .ref y)]) hx hb dX3_lay_45 hl (k := 0) rfl (nI_1 _) (by decide) rfl (fun ls hl => ?_)
        refine lv_goto (tgt := 30) hx hb dX3_lay_48 (by decide) ?_
        exact ih30 (k + 1) (upd g k (nI (cg P k))) (by omega) (up_ext hcp) H8 _ hS hO hf2 hf11 hzq hMT hLA hT ls (by omega) (lv_sub hl [0, 1, 2, 3, 4, 5, 6] rfl)
  exact loop30 _ 0 (fun _ => nI 0) (by omega) (fun j h => absurd h (Nat.not_lt_zero _)) H5 _ hS hO hf2 hf11 hzq hMT hLA hT ls (Nat.lt_succ_self _) (lv_sub hl [0, 1, 2, 6, 5, 4, 3] rfl)

abbrev RMX3_put : Room := { frames := 5, cells := 1, slots := 2, locals := 102 }
set_option maxHeartbeats 4000000 in
set_option maxRecDepth 100000 in
/-- a new text of another into a slot -/
theorem c_X3_put (l : Launch) (G : gG) (y T : Nat) (L : List Nat) (txt : Nat → List Nat) (tad : Nat → Nat) (th : Int32) (w : Wt) (i j : Nat) (hi8 : i < 8) (hj8 : j < 8) (a : Nat) (P : List Nat) (gP : Gt P) (har : y + 35 ≤ a) (H0 : Heap) (hMT : MT G y T L txt tad th H0) (hLA : LA G y w H0) (hT : TA G a P H0) : XM l yX3_put wsX3_put RMX3_put G [.ref y, .int (nI i), .ref a, .int (nI P.length), .int (nI j)] H0 y (y + 34) 1 2 (qI (fun r H1 => r = ordr P (txt i) ∧ MW G y L (up txt j P) th H1)) xN := by
  refine x_ofW (cc := cX3_put) (maxL := 6) (ret := (some .int)) (by decide) rfl (Nat.le_of_ble_eq_true rfl) ?_
  intro p e s m below meth c hx hb hr hml hown hts hlocks hout hin2 h0 hE ls hl
  replace hown : s.vm.findClass RX3 = some m.cls := hown
  have hK := hE.1
  have hS : va_S (gA y (y + 34) H0.size) H0 H0 [] := va_S.rf
  generalize hargs : ([.ref y, .int (nI i), .ref a, .int (nI P.length), .int (nI j)] : List Value).toArray = args at hts ⊢
  have hw0 := hts (.fieldLink RX3 15 "ReleaseledgerModel" "texts" "[[C") (by decide +kernel)
  have hw1 : ∀ w ∈ u_ws RX3 TX3 9, w ∈ wsX3_put := by decide +kernel
  have hw2 := hts (.fieldLink RX3 18 "ReleaseledgerModel" "sizes" "[I") (by decide +kernel)
  have hl : lv_has ls 6 [(0, .ref y), (1, .int (nI i)), (2, .ref a), (3, .int (nI P.length)), (4, .int (nI j))] := hl
  obtain ⟨hO, hTd, ⟨f2, hf2, hf2b⟩, ⟨f11, hf11, hf11b⟩, htx, hLd, hyT, hTs⟩ := id hMT
  have hP60 := gP.le
  have haT := hT.lt
  refine lv_aload_n hx hb dX3_put_0 rfl (lv_at hl 0 rfl) ?_
  refine lv_iconst (v := nI 0) hx hb dX3_put_1 (by decide) ?_
  refine lv_aload_n hx hb dX3_put_2 rfl (lv_at hl 2 rfl) ?_
  refine lv_iload_n hx hb dX3_put_3 rfl (lv_at hl 3 rfl) ?_
  refine x_goV (x_runV (As := [.int (nI 0), .ref a, .int (nI P.length)]) (rest := []) ⟨hx, hb, hml, hown, hts⟩ hE h0 hS (c_X3_look l G y (nI L.length) th w 0 (by decide) a P (by omega) (by omega) H0 hO hLA hT) (cwV 3 hts gX3_put_X3_look rfl rfl rfl (by decide +kernel) ⟨Nat.le_of_ble_eq_true rfl, Nat.le_of_ble_eq_true rfl⟩) (gO.recv (C := RX3) hK hO rfl) (by omega) rfl rfl hl.1 rfl (lv_room (Nat.le_of_ble_eq_true rfl)) dX3_put_4 ⟨by first | exact Nat.le_of_ble_eq_true rfl | omega, by first | exact Nat.le_of_ble_eq_true rfl | omega⟩) hS (by omega) (fun _ _ _ _ _ h => h.elim) (fun  H1 locs hq hF hS => ?_)
  have hO := hO.fr hF (by omega)
  have hf2 := hf2.fr hF (by omega)
  have hf11 := hf11.fr hF (by omega)
  have hMT := hMT.fr hF (by omega)
  have hT := hT.fr hF (by omega)
  have hLA := hq
  refine lv_aload_n hx hb dX3_put_7 rfl (lv_at hl 0 rfl) ?_
  refine lv_iconst (v := nI 1) hx hb dX3_put_8 (by decide) ?_
  refine lv_iload_n hx hb dX3_put_9 rfl (lv_at hl 1 rfl) ?_
  refine x_goV (x_runV (As := [.int (nI 1), .int (nI i)]) (rest := []) ⟨hx, hb, hml, hown, hts⟩ hE h0 hS (c_X3_look_ l G y T L txt tad th (wset w 0 (a, tk P)) 1 (by decide) i (by omega) H1 hMT hLA) (cwV 2 hts gX3_put_X3_look_ rfl rfl rfl (by decide +kernel) ⟨Nat.le_of_ble_eq_true rfl, Nat.le_of_ble_eq_true rfl⟩) (gO.recv (C := RX3) hK hO rfl) (by omega) rfl rfl hl.1 rfl (lv_room (Nat.le_of_ble_eq_true rfl)) dX3_put_10 ⟨by first | exact Nat.le_of_ble_eq_true rfl | omega, by first | exact Nat.le_of_ble_eq_true rfl | omega⟩) hS (by omega) (fun _ _ _ _ _ h => h.elim) (fun  H2 locs hq hF hS => ?_)
  have hO := hO.fr hF (by omega)
  have hf2 := hf2.fr hF (by omega)
  have hf11 := hf11.fr hF (by omega)
  have hMT := hMT.fr hF (by omega)
  have hT := hT.fr hF (by omega)
  have hLA := hq
  refine lv_aload_n hx hb dX3_put_13 rfl (lv_at hl 0 rfl) ?_
  refine x_goR (x_runV (As := []) (rest := []) ⟨hx, hb, hml, hown, hts⟩ hE h0 hS (c_X3_judged l G y (nI L.length) th (wset (wset w 0 (a, tk P)) 1 (tad i, tk (txt i))) a (tad i) P (txt i) (by rw [wset_ne (by decide)]; exact wset_self) wset_self gP.J (hMT.gt hi8).J H2 hO hLA hT (hMT.tx hi8)) (cwV 0 hts gX3_put_X3_judged rfl rfl rfl (by decide +kernel) ⟨Nat.le_of_ble_eq_true rfl, Nat.le_of_ble_eq_true rfl⟩) (gO.recv (C := RX3) hK hO rfl) (by omega) rfl rfl hl.1 rfl (lv_room (Nat.le_of_ble_eq_true rfl)) dX3_put_14 ⟨by first | exact Nat.le_of_ble_eq_true rfl | omega, by first | exact Nat.le_of_ble_eq_true rfl | omega⟩) hS (by omega) (fun _ _ _ _ _ h => h.elim) (fun r4 H3 locs hq hF hS => ?_)
  have hO := hO.fr hF (by omega)
  have hf2 := hf2.fr hF (by omega)
  have hf11 := hf11.fr hF (by omega)
  have hMT := hMT.fr hF (by omega)
  have hLA := hLA.fr hF (by omega)
  have hT := hT.fr hF (by omega)
  obtain ⟨hr0, fr_, hfr, hfr0, hfr1⟩ := hq
  refine lv_iconst (v := nI 0) hx hb dX3_put_17 (by decide) ?_
  refine x_iald hx hb hK hfr (by omega) (by decide) dX3_put_18 ?_
  refine x_rw (z := (ordr P (txt i))) hfr0 ?_
  refine lv_istore (lv' := [(5, .int (ordr P (txt i))), (0, .ref y), (1, .int (nI i)), (2, .ref a), (3, .int (nI P.length)), (4, .int (nI j))]) hx hb dX3_put_19 hl (by decide) rfl (fun ls hl => ?_)
  obtain ⟨ft_a, hTa_a, hTf_a, hTn_a, hTc_a⟩ := id hT
  refine lv_aload_n hx hb dX3_put_21 rfl (lv_at hl 1 rfl) ?_
  refine x_get (ci := 3) hx hb hts hown hK rfl hw1 2 (by decide) hw0 hO rfl dX3_put_22 ?_
  refine lv_iload hx hb dX3_put_25 (lv_at hl 5 rfl) ?_
  refine lv_aload_n hx hb dX3_put_27 rfl (lv_at hl 3 rfl) ?_
  refine x_aastA hx hb hK hE hf2 hTa_a (by omega) (by decide) hS (by unfold gA; omega) dX3_put_28 (fun H5 locs hf2 hF hz hS => ?_)
  have hO := hO.fr hF (by omega)
  have hf11 := hf11.fr hF (by omega)
  have hLA := hLA.fr hF (by omega)
  have hT := hT.fr hF (by omega)
  have f1 := hF
  refine lv_aload_n hx hb dX3_put_29 rfl (lv_at hl 1 rfl) ?_
  refine x_get (ci := 3) hx hb hts hown hK rfl hw1 3 (by decide) hw2 hO rfl dX3_put_30 ?_
  refine lv_iload hx hb dX3_put_33 (lv_at hl 5 rfl) ?_
  refine lv_iload_n hx hb dX3_put_35 rfl (lv_at hl 4 rfl) ?_
  refine x_iast hx hb hK hf11 (by omega) (by decide) hS (by unfold gA; omega) dX3_put_36 (fun H6 locs hf11 hF hz hS => ?_)
  have hO := hO.fr hF (by omega)
  have hf2 := hf2.fr hF (by omega)
  have hLA := hLA.fr hF (by omega)
  have hT := hT.fr hF (by omega)
  have hMT2 := hMT.set f1 hF hf2b hf11b hf2 hf11 (by omega) hT gP
  refine lv_iload hx hb dX3_put_37 (lv_at hl 0 rfl) ?_
  exact x_iret hx hb hr hlocks h0 hS (by omega) (by omega) dX3_put_39 (⟨rfl, _, _, hMT2, hLA⟩)
