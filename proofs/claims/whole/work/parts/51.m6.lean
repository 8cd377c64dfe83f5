abbrev RMX3_add : Room := { frames := 3, cells := 0, slots := 0, locals := 60 }
set_option maxHeartbeats 4000000 in
set_option maxRecDepth 100000 in
theorem c_X3_add (l : Launch) (G : gG) (y : Nat) (L : List Nat) (txt : Nat → List Nat) (th : Int32) (n z : Int32) (h : Nat) (hh : h < 65536) (H0 : Heap) (hMW : MW G y L txt th H0) : XM l yX3_add wsX3_add RMX3_add G [.ref y, .int n, .int z, .int (nI h)] H0 y (y + 34) 0 0 (qI (fun r H1 => MR G y (rs2 (okN 1000000000 n ∧ okN 4 z ∧ isWay h) (Jn L h 1 (ix z + dgs (ix n)))) (r = nI (jn L h ++ num (ix n) (ix z)).length) (jn L h ++ num (ix n) (ix z)) L txt txt H1)) xN := by
  refine x_ofW (cc := cX3_add) (maxL := 4) (ret := (some .int)) (by decide) rfl (Nat.le_of_ble_eq_true rfl) ?_
  intro p e s m below meth c hx hb hr hml hown hts hlocks hout hin2 h0 hE ls hl
  replace hown : s.vm.findClass RX3 = some m.cls := hown
  have hK := hE.1
  have hS : va_S (gA y (y + 34) H0.size) H0 H0 [] := va_S.rf
  generalize hargs : ([.ref y, .int n, .int z, .int (nI h)] : List Value).toArray = args at hts ⊢
  have hw0 := hts (.constant RX3 95 (999999999)) (by decide +kernel)
  have hw1 := hts (.fieldLink RX3 9 "ReleaseledgerModel" "draft" "[C") (by decide +kernel)
  have hw2 : ∀ w ∈ u_ws RX3 TX3 9, w ∈ wsX3_add := by decide +kernel
  have hw3 := hts (.fieldLink RX3 92 "ReleaseledgerModel" "draftSize" "I") (by decide +kernel)
  have hl : lv_has ls 4 [(0, .ref y), (1, .int n), (2, .int z), (3, .int (nI h))] := hl
  obtain ⟨tad, w, hMT, hLA⟩ := hMW
  generalize hTe : H0.size = T at hMT
  obtain ⟨hO, hTd, ⟨f2, hf2, hf2b⟩, ⟨f11, hf11, hf11b⟩, htx, hLd, hyT, hTs⟩ := id hMT
  have hTd0 := hTd
  obtain ⟨fd, hD, hDf, hDn, hDc⟩ := hTd
  have hTe2 : T = H0.size := hTe.symm
  refine lv_aload_n hx hb dX3_add_0 rfl (lv_at hl 0 rfl) ?_
  refine lv_iload_n hx hb dX3_add_1 rfl (lv_at hl 1 rfl) ?_
  refine lv_iconst (v := nI 0) hx hb dX3_add_2 (by decide) ?_
  refine lv_ldc hx hb hown hw0 dX3_add_3 ?_
  refine x_rw (z := nI 999999999) (by decide) ?_
  refine x_goI_ro (x_runS (As := [.int n, .int (nI 0), .int (nI 999999999)]) (rest := [.ref y]) ⟨hx, hb, hml, hown, hts⟩ hE h0 hS (c_X3_in l G n (nI 0) (nI 999999999) H0) (va_cwS 3 hts gX3_add_X3_in rfl rfl rfl (by decide +kernel) ⟨Nat.le_of_ble_eq_true rfl, Nat.le_of_ble_eq_true rfl⟩) (by omega) rfl rfl hl.1 rfl (lv_room (Nat.le_of_ble_eq_true rfl)) dX3_add_5 ⟨by first | exact Nat.le_of_ble_eq_true rfl | omega, by first | exact Nat.le_of_ble_eq_true rfl | omega⟩) hS (by omega) (fun _ _ _ _ _ h => h.elim) (fun locs hq hS => ?_)
  refine x_if_eqB (tgt := 31) hx hb dX3_add_8 (by decide) (fun c8 => ?_) (fun c8 => ?_)
  · refine lv_iconst (v := nI 0) hx hb dX3_add_31 (by decide) ?_
    refine x_rw (z := bI false) (by decide) ?_
    refine lv_iconst (v := nI 1) hx hb dX3_add_32 (by decide) ?_
    refine x_goI (x_runV (As := [.int (bI false), .int (nI 1)]) (rest := []) ⟨hx, hb, hml, hown, hts⟩ hE h0 hS (c_X3_no l G y (nI L.length) th false 1 H0 hO) (cwV 2 hts gX3_add_X3_no rfl rfl rfl (by decide +kernel) ⟨Nat.le_of_ble_eq_true rfl, Nat.le_of_ble_eq_true rfl⟩) (gO.recv (C := RX3) hK hO rfl) (by omega) rfl rfl hl.1 rfl (lv_room (Nat.le_of_ble_eq_true rfl)) dX3_add_33 ⟨by first | exact Nat.le_of_ble_eq_true rfl | omega, by first | exact Nat.le_of_ble_eq_true rfl | omega⟩) hS (by omega) (fun _ _ _ _ _ h => h.elim) (fun r3 H2 locs hq hF hS => ?_)
    have hf2 := hf2.fr hF (by omega)
    have hf11 := hf11.fr hF (by omega)
    have hD := hD.fr hF (by omega)
    have hLA := hLA.fr hF (by omega)
    have hTd0 := hTd0.fr hF (by omega)
    obtain ⟨hr_, hOn⟩ := hq
    refine x_rw (z := bI true) hr_ ?_
    replace hOn : MO G y (nI L.length) (nI 1) H2 := hOn
    have hMT := hMT.setO hF hOn
    have hO := hOn
    refine x_if_neB (tgt := 59) hx hb dX3_add_36 (by decide) (fun c36 => ?_) (fun c36 => ?_)
    · refine lv_iconst (v := nI 0) hx hb dX3_add_59 (by decide) ?_
      exact x_iret hx hb hr hlocks h0 hS (by omega) (by omega) dX3_add_60 (MR.no n10 (rs2_1 (fun g => by first | exact inB_no c8 (inB_okN (n := 999999999) (by decide)) g.1 | exact inB_no c17 (inB_okN (n := 3) (by decide)) g.2.1 | (have g2 := isWayB_iff.mpr g.2.2; rw [c24] at g2; exact Bool.noConfusion g2))) (hMT.W hLA))
    · exact absurd c36 (by decide)
  · refine lv_iload_n hx hb dX3_add_11 rfl (lv_at hl 2 rfl) ?_
    refine lv_iconst (v := nI 0) hx hb dX3_add_12 (by decide) ?_
    refine lv_iconst (v := nI 3) hx hb dX3_add_13 (by decide) ?_
    refine x_goI_ro (x_runS (As := [.int z, .int (nI 0), .int (nI 3)]) (rest := [.ref y]) ⟨hx, hb, hml, hown, hts⟩ hE h0 hS (c_X3_in l G z (nI 0) (nI 3) H0) (va_cwS 3 hts gX3_add_X3_in rfl rfl rfl (by decide +kernel) ⟨Nat.le_of_ble_eq_true rfl, Nat.le_of_ble_eq_true rfl⟩) (by omega) rfl rfl hl.1 rfl (lv_room (Nat.le_of_ble_eq_true rfl)) dX3_add_14 ⟨by first | exact Nat.le_of_ble_eq_true rfl | omega, by first | exact Nat.le_of_ble_eq_true rfl | omega⟩) hS (by omega) (fun _ _ _ _ _ h => h.elim) (fun locs hq hS => ?_)
    refine x_if_eqB (tgt := 31) hx hb dX3_add_17 (by decide) (fun c17 => ?_) (fun c17 => ?_)
    · refine lv_iconst (v := nI 0) hx hb dX3_add_31 (by decide) ?_
      refine x_rw (z := bI false) (by decide) ?_
      refine lv_iconst (v := nI 1) hx hb dX3_add_32 (by decide) ?_
      refine x_goI (x_runV (As := [.int (bI false), .int (nI 1)]) (rest := []) ⟨hx, hb, hml, hown, hts⟩ hE h0 hS (c_X3_no l G y (nI L.length) th false 1 H0 hO) (cwV 2 hts gX3_add_X3_no rfl rfl rfl (by decide +kernel) ⟨Nat.le_of_ble_eq_true rfl, Nat.le_of_ble_eq_true rfl⟩) (gO.recv (C := RX3) hK hO rfl) (by omega) rfl rfl hl.1 rfl (lv_room (Nat.le_of_ble_eq_true rfl)) dX3_add_33 ⟨by first | exact Nat.le_of_ble_eq_true rfl | omega, by first | exact Nat.le_of_ble_eq_true rfl | omega⟩) hS (by omega) (fun _ _ _ _ _ h => h.elim) (fun r6 H5 locs hq hF hS => ?_)
      have hf2 := hf2.fr hF (by omega)
      have hf11 := hf11.fr hF (by omega)
      have hD := hD.fr hF (by omega)
      have hLA := hLA.fr hF (by omega)
      have hTd0 := hTd0.fr hF (by omega)
      obtain ⟨hr_, hOn⟩ := hq
      refine x_rw (z := bI true) hr_ ?_
      replace hOn : MO G y (nI L.length) (nI 1) H5 := hOn
      have hMT := hMT.setO hF hOn
      have hO := hOn
      refine x_if_neB (tgt := 59) hx hb dX3_add_36 (by decide) (fun c36 => ?_) (fun c36 => ?_)
      · refine lv_iconst (v := nI 0) hx hb dX3_add_59 (by decide) ?_
        exact x_iret hx hb hr hlocks h0 hS (by omega) (by omega) dX3_add_60 (MR.no n10 (rs2_1 (fun g => by first | exact inB_no c8 (inB_okN (n := 999999999) (by decide)) g.1 | exact inB_no c17 (inB_okN (n := 3) (by decide)) g.2.1 | (have g2 := isWayB_iff.mpr g.2.2; rw [c24] at g2; exact Bool.noConfusion g2))) (hMT.W hLA))
      · exact absurd c36 (by decide)
    · refine lv_iload_n hx hb dX3_add_20 rfl (lv_at hl 3 rfl) ?_
      refine x_goI_ro (x_runS (As := [.int (nI h)]) (rest := [.ref y]) ⟨hx, hb, hml, hown, hts⟩ hE h0 hS (c_X3_isWay l G h hh H0) (va_cwS 1 hts gX3_add_X3_isWay rfl rfl rfl (by decide +kernel) ⟨Nat.le_of_ble_eq_true rfl, Nat.le_of_ble_eq_true rfl⟩) (by omega) rfl rfl hl.1 rfl (lv_room (Nat.le_of_ble_eq_true rfl)) dX3_add_21 ⟨by first | exact Nat.le_of_ble_eq_true rfl | omega, by first | exact Nat.le_of_ble_eq_true rfl | omega⟩) hS (by omega) (fun _ _ _ _ _ h => h.elim) (fun locs hq hS => ?_)
      refine x_if_eqB (tgt := 31) hx hb dX3_add_24 (by decide) (fun c24 => ?_) (fun c24 => ?_)
      · refine lv_iconst (v := nI 0) hx hb dX3_add_31 (by decide) ?_
        refine x_rw (z := bI false) (by decide) ?_
        refine lv_iconst (v := nI 1) hx hb dX3_add_32 (by decide) ?_
        refine x_goI (x_runV (As := [.int (bI false), .int (nI 1)]) (rest := []) ⟨hx, hb, hml, hown, hts⟩ hE h0 hS (c_X3_no l G y (nI L.length) th false 1 H0 hO) (cwV 2 hts gX3_add_X3_no rfl rfl rfl (by decide +kernel) ⟨Nat.le_of_ble_eq_true rfl, Nat.le_of_ble_eq_true rfl⟩) (gO.recv (C := RX3) hK hO rfl) (by omega) rfl rfl hl.1 rfl (lv_room (Nat.le_of_ble_eq_true rfl)) dX3_add_33 ⟨by first | exact Nat.le_of_ble_eq_true rfl | omega, by first | exact Nat.le_of_ble_eq_true rfl | omega⟩) hS (by omega) (fun _ _ _ _ _ h => h.elim) (fun r9 H8 locs hq hF hS => ?_)
        have hf2 := hf2.fr hF (by omega)
        have hf11 := hf11.fr hF (by omega)
        have hD := hD.fr hF (by omega)
        have hLA := hLA.fr hF (by omega)
        have hTd0 := hTd0.fr hF (by omega)
        obtain ⟨hr_, hOn⟩ := hq
        refine x_rw (z := bI true) hr_ ?_
        replace hOn : MO G y (nI L.length) (nI 1) H8 := hOn
        have hMT := hMT.setO hF hOn
        have hO := hOn
        refine x_if_neB (tgt := 59) hx hb dX3_add_36 (by decide) (fun c36 => ?_) (fun c36 => ?_)
        · refine lv_iconst (v := nI 0) hx hb dX3_add_59 (by decide) ?_
          exact x_iret hx hb hr hlocks h0 hS (by omega) (by omega) dX3_add_60 (MR.no n10 (rs2_1 (fun g => by first | exact inB_no c8 (inB_okN (n := 999999999) (by decide)) g.1 | exact inB_no c17 (inB_okN (n := 3) (by decide)) g.2.1 | (have g2 := isWayB_iff.mpr g.2.2; rw [c24] at g2; exact Bool.noConfusion g2))) (hMT.W hLA))
        · exact absurd c36 (by decide)
      · refine lv_iconst (v := nI 1) hx hb dX3_add_27 (by decide) ?_
        refine lv_goto (tgt := 32) hx hb dX3_add_28 (by decide) ?_
        refine x_rw (z := bI true) (by decide) ?_
        refine lv_iconst (v := nI 1) hx hb dX3_add_32 (by decide) ?_
        refine x_goI (x_runV (As := [.int (bI true), .int (nI 1)]) (rest := []) ⟨hx, hb, hml, hown, hts⟩ hE h0 hS (c_X3_no l G y (nI L.length) th true 1 H0 hO) (cwV 2 hts gX3_add_X3_no rfl rfl rfl (by decide +kernel) ⟨Nat.le_of_ble_eq_true rfl, Nat.le_of_ble_eq_true rfl⟩) (gO.recv (C := RX3) hK hO rfl) (by omega) rfl rfl hl.1 rfl (lv_room (Nat.le_of_ble_eq_true rfl)) dX3_add_33 ⟨by first | exact Nat.le_of_ble_eq_true rfl | omega, by first | exact Nat.le_of_ble_eq_true rfl | omega⟩) hS (by omega) (fun _ _ _ _ _ h => h.elim) (fun r11 H10 locs hq hF hS => ?_)
        have hf2 := hf2.fr hF (by omega)
        have hf11 := hf11.fr hF (by omega)
        have hD := hD.fr hF (by omega)
        have hLA := hLA.fr hF (by omega)
        have hTd0 := hTd0.fr hF (by omega)
        obtain ⟨hr_, hOn⟩ := hq
        refine x_rw (z := bI false) hr_ ?_
        replace hOn : MO G y (nI L.length) 0 H10 := hOn
        have hMT := hMT.setO hF hOn
        have hO := hOn
        refine x_if_neB (tgt := 59) hx hb dX3_add_36 (by decide) (fun c36 => ?_) (fun c36 => ?_)
        · exact absurd c36 (by decide)
        · obtain ⟨n1, hn1, rfl⟩ := (inB_okN (n := 999999999) (by decide)).mp c8
          obtain ⟨z1, hz1, rfl⟩ := (inB_okN (n := 3) (by decide)).mp c17
          have hway := isWayB_iff.mp c24
          refine lv_aload_n hx hb dX3_add_39 rfl (lv_at hl 0 rfl) ?_
          refine lv_aload_n hx hb dX3_add_40 rfl (lv_at hl 0 rfl) ?_
          refine lv_iconst (v := nI 1) hx hb dX3_add_41 (by decide) ?_
          refine x_rw (z := bI true) (by decide) ?_
          refine lv_iload_n hx hb dX3_add_42 rfl (lv_at hl 3 rfl) ?_
          refine lv_iload_n hx hb dX3_add_43 rfl (lv_at hl 2 rfl) ?_
          refine lv_iload_n hx hb dX3_add_44 rfl (lv_at hl 1 rfl) ?_
          refine x_goI_ro (x_runS (As := [.int (nI n1)]) (rest := [.int (nI z1), .int (nI h), .int (bI true), .ref y, .ref y]) ⟨hx, hb, hml, hown, hts⟩ hE h0 hS (c_X3_length l G n1 (by omega) H10) (va_cwS 1 hts gX3_add_X3_length rfl rfl rfl (by decide +kernel) ⟨Nat.le_of_ble_eq_true rfl, Nat.le_of_ble_eq_true rfl⟩) (by omega) rfl rfl hl.1 rfl (lv_room (Nat.le_of_ble_eq_true rfl)) dX3_add_45 ⟨by first | exact Nat.le_of_ble_eq_true rfl | omega, by first | exact Nat.le_of_ble_eq_true rfl | omega⟩) hS (by omega) (fun _ _ _ _ _ h => h.elim) (fun locs hq hS => ?_)
          have hd0_n1 := dgs_pos n1
          have hd9_n1 := dgs_lo (n := n1) (by omega)
          refine lv_iadd hx hb dX3_add_48 ?_
          refine x_rw (z := nI (z1 + (dgs n1))) (nI_add _ _) ?_
          refine x_goI_ro (x_runV (As := [.int (bI true), .int (nI h), .int (nI (z1 + (dgs n1)))]) (rest := [.ref y]) ⟨hx, hb, hml, hown, hts⟩ hE h0 hS (c_X3_isJoined l G y L 0 true h 1 (z1 + dgs n1) (by first | exact Or.inl ⟨rfl, rfl⟩ | exact Or.inr ⟨rfl, rfl⟩) (by omega) (by omega) hLd H10 hO hTd0) (cwV 3 hts gX3_add_X3_isJoined rfl rfl rfl (by decide +kernel) ⟨Nat.le_of_ble_eq_true rfl, Nat.le_of_ble_eq_true rfl⟩) (gO.recv (C := RX3) hK hO rfl) (by omega) rfl rfl hl.1 rfl (lv_room (Nat.le_of_ble_eq_true rfl)) dX3_add_49 ⟨by first | exact Nat.le_of_ble_eq_true rfl | omega, by first | exact Nat.le_of_ble_eq_true rfl | omega⟩) hS (by omega) (fun _ _ _ _ _ h => h.elim) (fun locs hq hS => ?_)
          rcases Bool.eq_false_or_eq_true (jB L h 1 ((z1 + dgs n1))) with hj | hj
          · refine x_rw (z := bI true) (congrArg bI hj) ?_
            refine lv_iconst (v := nI 2) hx hb dX3_add_52 (by decide) ?_
            refine x_goI (x_runV (As := [.int (bI true), .int (nI 2)]) (rest := []) ⟨hx, hb, hml, hown, hts⟩ hE h0 hS (c_X3_no l G y (nI L.length) 0 true 2 H10 hO) (cwV 2 hts gX3_add_X3_no rfl rfl rfl (by decide +kernel) ⟨Nat.le_of_ble_eq_true rfl, Nat.le_of_ble_eq_true rfl⟩) (gO.recv (C := RX3) hK hO rfl) (by omega) rfl rfl hl.1 rfl (lv_room (Nat.le_of_ble_eq_true rfl)) dX3_add_53 ⟨by first | exact Nat.le_of_ble_eq_true rfl | omega, by first | exact Nat.le_of_ble_eq_true rfl | omega⟩) hS (by omega) (fun _ _ _ _ _ h => h.elim) (fun r15 H14 locs hq hF hS => ?_)
            have hf2 := hf2.fr hF (by omega)
            have hf11 := hf11.fr hF (by omega)
            have hD := hD.fr hF (by omega)
            have hLA := hLA.fr hF (by omega)
            have hTd0 := hTd0.fr hF (by omega)
            obtain ⟨hr_, hOn⟩ := hq
            refine x_rw (z := bI false) hr_ ?_
            replace hOn : MO G y (nI L.length) 0 H14 := hOn
            have hMT := hMT.setO hF hOn
            have hO := hOn
            refine x_if_eqB (tgt := 61) hx hb dX3_add_56 (by decide) (fun c56 => ?_) (fun c56 => ?_)
            · have hjn := jB_iff.mp hj
              have hgL := hLd.resolve_left (fun g => by have := hjn.1; rw [g] at this; exact absurd this (by decide))
              refine lv_aload_n hx hb dX3_add_61 rfl (lv_at hl 0 rfl) ?_
              refine lv_iload_n hx hb dX3_add_62 rfl (lv_at hl 3 rfl) ?_
              refine x_goV (x_runV (As := [.int (nI h)]) (rest := []) ⟨hx, hb, hml, hown, hts⟩ hE h0 hS (c_X3_join l G y L 0 h (by omega) (by have hj4 := hjn.2.2.2; exact (Decidable.em (h = 110)).elim Or.inl (fun g => by rw [if_neg g] at hj4; exact Or.inr (by omega))) H14 hO hTd0) (cwV 1 hts gX3_add_X3_join rfl rfl rfl (by decide +kernel) ⟨Nat.le_of_ble_eq_true rfl, Nat.le_of_ble_eq_true rfl⟩) (gO.recv (C := RX3) hK hO rfl) (by omega) rfl rfl hl.1 rfl (lv_room (Nat.le_of_ble_eq_true rfl)) dX3_add_63 ⟨by first | exact Nat.le_of_ble_eq_true rfl | omega, by first | exact Nat.le_of_ble_eq_true rfl | omega⟩) hS (by omega) (fun _ _ _ _ _ h => h.elim) (fun  H16 locs hq hF hS => ?_)
              have hf2 := hf2.fr hF (by omega)
              have hf11 := hf11.fr hF (by omega)
              have hLA := hLA.fr hF (by omega)
              obtain ⟨hO, hTj⟩ := hq
              have hMT0 := hMT
              have hFj := hF
              obtain ⟨fj, hD, hDf, hDn, hDc⟩ := id hTj
              refine lv_aload_n hx hb dX3_add_66 rfl (lv_at hl 0 rfl) ?_
              refine lv_aload_n hx hb dX3_add_67 rfl (lv_at hl 0 rfl) ?_
              refine x_get (ci := 3) hx hb hts hown hK rfl hw2 0 (by decide) hw1 hO rfl dX3_add_68 ?_
              refine lv_aload_n hx hb dX3_add_71 rfl (lv_at hl 0 rfl) ?_
              refine x_get (ci := 3) hx hb hts hown hK rfl hw2 1 (by decide) hw3 hO rfl dX3_add_72 ?_
              refine lv_iload_n hx hb dX3_add_75 rfl (lv_at hl 1 rfl) ?_
              refine lv_iload_n hx hb dX3_add_76 rfl (lv_at hl 2 rfl) ?_
              refine x_goI (x_runS (As := [.ref (y + 1), .int (nI ((jn L h).length)), .int (nI n1), .int (nI z1)]) (rest := [.ref y]) ⟨hx, hb, hml, hown, hts⟩ hE h0 hS (c_X3_digits l G (y + 1) (jn L h).length n1 z1 fj (by omega) (by omega) (by have := jn_len (L := L) (how := h) (n := z1 + dgs n1); have hj4 := hjn.2.2.2; omega) H16 hD) (va_cwS 4 hts gX3_add_X3_digits rfl rfl rfl (by decide +kernel) ⟨Nat.le_of_ble_eq_true rfl, Nat.le_of_ble_eq_true rfl⟩) (by omega) rfl rfl hl.1 rfl (lv_room (Nat.le_of_ble_eq_true rfl)) dX3_add_77 ⟨by first | exact Nat.le_of_ble_eq_true rfl | omega, by first | exact Nat.le_of_ble_eq_true rfl | omega⟩) hS (by omega) (fun _ _ _ _ _ h => h.elim) (fun r18 H17 locs hq hF hS => ?_)
              have hf2 := hf2.fr hF (by omega)
              have hf11 := hf11.fr hF (by omega)
              have hO := hO.fr hF (by omega)
              have hLA := hLA.fr hF (by omega)
              obtain ⟨hr_, fd2, hD2, hd1, hd2⟩ := hq
              have hFd := hF
              refine x_rw (z := nI (jn L h ++ num n1 z1).length) (by rw [hr_, List.length_append, num_len]) ?_
              refine x_put (ci := 3) hx hb hts hown hK rfl hw2 tyX3_ok nmX3 1 (by decide) hw3 rfl (tyX3_ok 1 (by decide)) rfl rfl hO (Nat.le_of_ble_eq_true rfl) hS (by unfold gA; omega) dX3_add_80 (fun H19 locs hO hF hz hS => ?_)
              have hO : gO G y 3 [.ref (y + 1), .int (nI ((jn L h ++ num n1 z1).length)), .ref (y + 2), .ref (y + 11), .ref (y + 12), .ref (y + 13), .ref (y + 16), .ref (y + 25), .int 0] H19 := hO
              have hf2 := hf2.fr hF (by omega)
              have hf11 := hf11.fr hF (by omega)
              have hD2 := hD2.fr hF (by omega)
              have hLA := hLA.fr hF (by omega)
              have hgN := Gt_num hgL hway hjn.2.1 (n := n1) (z := z1) (by omega) (by omega) (by rw [List.length_append, num_len, jn_len]; exact hjn.2.2.2)
              have hMT2 := hMT0.setD ((hFj.trans (hFd.widen (lo := y) (hi := y + 2) (by omega)) (by omega)).trans hF (by omega)) hO (TA_join hD2 hd1 hDf hd2 (num_len _ _) hgN) (Or.inr hgN)
              refine lv_aload_n hx hb dX3_add_83 rfl (lv_at hl 0 rfl) ?_
              refine x_get (ci := 3) hx hb hts hown hK rfl hw2 1 (by decide) hw3 hO rfl dX3_add_84 ?_
              exact x_iret hx hb hr hlocks h0 hS (by omega) (by omega) dX3_add_87 (MR.ok (rs2_y ⟨⟨n1, hn1, rfl⟩, ⟨z1, hz1, rfl⟩, hway⟩ (by rw [ix_N (by omega), ix_N (by omega)]; exact hjn)) (by rw [ix_N (by omega), ix_N (by omega)]) (by rw [ix_N (by omega), ix_N (by omega)]; exact hMT2.W hLA))
            · exact absurd c56 (by decide)
          · refine x_rw (z := bI false) (congrArg bI hj) ?_
            refine lv_iconst (v := nI 2) hx hb dX3_add_52 (by decide) ?_
            refine x_goI (x_runV (As := [.int (bI false), .int (nI 2)]) (rest := []) ⟨hx, hb, hml, hown, hts⟩ hE h0 hS (c_X3_no l G y (nI L.length) 0 false 2 H10 hO) (cwV 2 hts gX3_add_X3_no rfl rfl rfl (by decide +kernel) ⟨Nat.le_of_ble_eq_true rfl, Nat.le_of_ble_eq_true rfl⟩) (gO.recv (C := RX3) hK hO rfl) (by omega) rfl rfl hl.1 rfl (lv_room (Nat.le_of_ble_eq_true rfl)) dX3_add_53 ⟨by first | exact Nat.le_of_ble_eq_true rfl | omega, by first | exact Nat.le_of_ble_eq_true rfl | omega⟩) hS (by omega) (fun _ _ _ _ _ h => h.elim) (fun r21 H20 locs hq hF hS => ?_)
            have hf2 := hf2.fr hF (by omega)
            have hf11 := hf11.fr hF (by omega)
            have hD := hD.fr hF (by omega)
            have hLA := hLA.fr hF (by omega)
            have hTd0 := hTd0.fr hF (by omega)
            obtain ⟨hr_, hOn⟩ := hq
            refine x_rw (z := bI true) hr_ ?_
            replace hOn : MO G y (nI L.length) (nI 2) H20 := hOn
            have hMT := hMT.setO hF hOn
            have hO := hOn
            refine x_if_eqB (tgt := 61) hx hb dX3_add_56 (by decide) (fun c56 => ?_) (fun c56 => ?_)
            · exact absurd c56 (by decide)
            · refine lv_iconst (v := nI 0) hx hb dX3_add_59 (by decide) ?_
              exact x_iret hx hb hr hlocks h0 hS (by omega) (by omega) dX3_add_60 (MR.no n20 (rs2_2 ⟨⟨n1, hn1, rfl⟩, ⟨z1, hz1, rfl⟩, hway⟩ (by rw [ix_N (by omega), ix_N (by omega)]; exact fun g => by rw [jB_iff.mpr g] at hj; cases hj)) (hMT.W hLA))

abbrev RMX3_word : Room := { frames := 3, cells := 0, slots := 0, locals := 57 }
set_option maxHeartbeats 4000000 in
set_option maxRecDepth 100000 in
theorem c_X3_word (l : Launch) (G : gG) (y : Nat) (L : List Nat) (txt : Nat → List Nat) (th : Int32) (code k : Int32) (h : Nat) (hh : h < 65536) (H0 : Heap) (hMW : MW G y L txt th H0) : XM l yX3_word wsX3_word RMX3_word G [.ref y, .int code, .int k, .int (nI h)] H0 y (y + 34) 0 0 (qI (fun r H1 => MR G y (rs2 (okP 5 k ∧ isWay h) (Jn L h 2 (ix k))) (r = nI (jn L h ++ wd (cd code) (ix k)).length) (jn L h ++ wd (cd code) (ix k)) L txt txt H1)) xN := by
  refine x_ofW (cc := cX3_word) (maxL := 7) (ret := (some .int)) (by decide) rfl (Nat.le_of_ble_eq_true rfl) ?_
  intro p e s m below meth c hx hb hr hml hown hts hlocks hout hin2 h0 hE ls hl
  replace hown : s.vm.findClass RX3 = some m.cls := hown
  have hK := hE.1
  have hS : va_S (gA y (y + 34) H0.size) H0 H0 [] := va_S.rf
  generalize hargs : ([.ref y, .int code, .int k, .int (nI h)] : List Value).toArray = args at hts ⊢
  have hw0 := hts (.constant RX3 107 (2147483647)) (by decide +kernel)
  have hw1 := hts (.fieldLink RX3 92 "ReleaseledgerModel" "draftSize" "I") (by decide +kernel)
  have hw2 : ∀ w ∈ u_ws RX3 TX3 9, w ∈ wsX3_word := by decide +kernel
  have hw3 := hts (.fieldLink RX3 9 "ReleaseledgerModel" "draft" "[C") (by decide +kernel)
  have hl : lv_has ls 7 [(0, .ref y), (1, .int code), (2, .int k), (3, .int (nI h))] := hl
  obtain ⟨tad, w, hMT, hLA⟩ := hMW
  generalize hTe : H0.size = T at hMT
  obtain ⟨hO, hTd, ⟨f2, hf2, hf2b⟩, ⟨f11, hf11, hf11b⟩, htx, hLd, hyT, hTs⟩ := id hMT
  have hTd0 := hTd
  obtain ⟨fd, hD, hDf, hDn, hDc⟩ := hTd
  have hTe2 : T = H0.size := hTe.symm
  have hcd := cd_lt code
  refine lv_aload_n hx hb dX3_word_0 rfl (lv_at hl 0 rfl) ?_
  refine lv_iload_n hx hb dX3_word_1 rfl (lv_at hl 2 rfl) ?_
  refine lv_iconst (v := nI 1) hx hb dX3_word_2 (by decide) ?_
  refine lv_iconst (v := nI 5) hx hb dX3_word_3 (by decide) ?_
  refine x_goI_ro (x_runS (As := [.int k, .int (nI 1), .int (nI 5)]) (rest := [.ref y]) ⟨hx, hb, hml, hown, hts⟩ hE h0 hS (c_X3_in l G k (nI 1) (nI 5) H0) (va_cwS 3 hts gX3_word_X3_in rfl rfl rfl (by decide +kernel) ⟨Nat.le_of_ble_eq_true rfl, Nat.le_of_ble_eq_true rfl⟩) (by omega) rfl rfl hl.1 rfl (lv_room (Nat.le_of_ble_eq_true rfl)) dX3_word_4 ⟨by first | exact Nat.le_of_ble_eq_true rfl | omega, by first | exact Nat.le_of_ble_eq_true rfl | omega⟩) hS (by omega) (fun _ _ _ _ _ h => h.elim) (fun locs hq hS => ?_)
  refine x_if_eqB (tgt := 21) hx hb dX3_word_7 (by decide) (fun c7 => ?_) (fun c7 => ?_)
  · refine lv_iconst (v := nI 0) hx hb dX3_word_21 (by decide) ?_
    refine x_rw (z := bI false) (by decide) ?_
    refine lv_iconst (v := nI 1) hx hb dX3_word_22 (by decide) ?_
    refine x_goI (x_runV (As := [.int (bI false), .int (nI 1)]) (rest := []) ⟨hx, hb, hml, hown, hts⟩ hE h0 hS (c_X3_no l G y (nI L.length) th false 1 H0 hO) (cwV 2 hts gX3_word_X3_no rfl rfl rfl (by decide +kernel) ⟨Nat.le_of_ble_eq_true rfl, Nat.le_of_ble_eq_true rfl⟩) (gO.recv (C := RX3) hK hO rfl) (by omega) rfl rfl hl.1 rfl (lv_room (Nat.le_of_ble_eq_true rfl)) dX3_word_23 ⟨by first | exact Nat.le_of_ble_eq_true rfl | omega, by first | exact Nat.le_of_ble_eq_true rfl | omega⟩) hS (by omega) (fun _ _ _ _ _ h => h.elim) (fun r3 H2 locs hq hF hS => ?_)
    have hf2 := hf2.fr hF (by omega)
    have hf11 := hf11.fr hF (by omega)
    have hD := hD.fr hF (by omega)
    have hLA := hLA.fr hF (by omega)
    have hTd0 := hTd0.fr hF (by omega)
    obtain ⟨hr_, hOn⟩ := hq
    refine x_rw (z := bI true) hr_ ?_
    replace hOn : MO G y (nI L.length) (nI 1) H2 := hOn
    have hMT := hMT.setO hF hOn
    have hO := hOn
    refine x_if_neB (tgt := 44) hx hb dX3_word_26 (by decide) (fun c26 => ?_) (fun c26 => ?_)
    · refine lv_iconst (v := nI 0) hx hb dX3_word_44 (by decide) ?_
      exact x_iret hx hb hr hlocks h0 hS (by omega) (by omega) dX3_word_45 (MR.no n10 (rs2_1 (fun g => by first | (have g2 := inB_iff.mpr ((okP_iff (by decide)).mp g.1); rw [c7] at g2; exact Bool.noConfusion g2) | (have g2 := isWayB_iff.mpr g.2; rw [c14] at g2; exact Bool.noConfusion g2))) (hMT.W hLA))
    · exact absurd c26 (by decide)
  · refine lv_iload_n hx hb dX3_word_10 rfl (lv_at hl 3 rfl) ?_
    refine x_goI_ro (x_runS (As := [.int (nI h)]) (rest := [.ref y]) ⟨hx, hb, hml, hown, hts⟩ hE h0 hS (c_X3_isWay l G h hh H0) (va_cwS 1 hts gX3_word_X3_isWay rfl rfl rfl (by decide +kernel) ⟨Nat.le_of_ble_eq_true rfl, Nat.le_of_ble_eq_true rfl⟩) (by omega) rfl rfl hl.1 rfl (lv_room (Nat.le_of_ble_eq_true rfl)) dX3_word_11 ⟨by first | exact Nat.le_of_ble_eq_true rfl | omega, by first | exact Nat.le_of_ble_eq_true rfl | omega⟩) hS (by omega) (fun _ _ _ _ _ h => h.elim) (fun locs hq hS => ?_)
    refine x_if_eqB (tgt := 21) hx hb dX3_word_14 (by decide) (fun c14 => ?_) (fun c14 => ?_)
    · refine lv_iconst (v := nI 0) hx hb dX3_word_21 (by decide) ?_
      refine x_rw (z := bI false) (by decide) ?_
      refine lv_iconst (v := nI 1) hx hb dX3_word_22 (by decide) ?_
      refine x_goI (x_runV (As := [.int (bI false), .int (nI 1)]) (rest := []) ⟨hx, hb, hml, hown, hts⟩ hE h0 hS (c_X3_no l G y (nI L.length) th false 1 H0 hO) (cwV 2 hts gX3_word_X3_no rfl rfl rfl (by decide +kernel) ⟨Nat.le_of_ble_eq_true rfl, Nat.le_of_ble_eq_true rfl⟩) (gO.recv (C := RX3) hK hO rfl) (by omega) rfl rfl hl.1 rfl (lv_room (Nat.le_of_ble_eq_true rfl)) dX3_word_23 ⟨by first | exact Nat.le_of_ble_eq_true rfl | omega, by first | exact Nat.le_of_ble_eq_true rfl | omega⟩) hS (by omega) (fun _ _ _ _ _ h => h.elim) (fun r6 H5 locs hq hF hS => ?_)
      have hf2 := hf2.fr hF (by omega)
      have hf11 := hf11.fr hF (by omega)
      have hD := hD.fr hF (by omega)
      have hLA := hLA.fr hF (by omega)
      have hTd0 := hTd0.fr hF (by omega)
      obtain ⟨hr_, hOn⟩ := hq
      refine x_rw (z := bI true) hr_ ?_
      replace hOn : MO G y (nI L.length) (nI 1) H5 := hOn
      have hMT := hMT.setO hF hOn
      have hO := hOn
      refine x_if_neB (tgt := 44) hx hb dX3_word_26 (by decide) (fun c26 => ?_) (fun c26 => ?_)
      · refine lv_iconst (v := nI 0) hx hb dX3_word_44 (by decide) ?_
        exact x_iret hx hb hr hlocks h0 hS (by omega) (by omega) dX3_word_45 (MR.no n10 (rs2_1 (fun g => by first | (have g2 := inB_iff.mpr ((okP_iff (by decide)).mp g.1); rw [c7] at g2; exact Bool.noConfusion g2) | (have g2 := isWayB_iff.mpr g.2; rw [c14] at g2; exact Bool.noConfusion g2))) (hMT.W hLA))
      · exact absurd c26 (by decide)
    · refine lv_iconst (v := nI 1) hx hb dX3_word_17 (by decide) ?_
      refine lv_goto (tgt := 22) hx hb dX3_word_18 (by decide) ?_
      refine x_rw (z := bI true) (by decide) ?_
      refine lv_iconst (v := nI 1) hx hb dX3_word_22 (by decide) ?_
      refine x_goI (x_runV (As := [.int (bI true), .int (nI 1)]) (rest := []) ⟨hx, hb, hml, hown, hts⟩ hE h0 hS (c_X3_no l G y (nI L.length) th true 1 H0 hO) (cwV 2 hts gX3_word_X3_no rfl rfl rfl (by decide +kernel) ⟨Nat.le_of_ble_eq_true rfl, Nat.le_of_ble_eq_true rfl⟩) (gO.recv (C := RX3) hK hO rfl) (by omega) rfl rfl hl.1 rfl (lv_room (Nat.le_of_ble_eq_true rfl)) dX3_word_23 ⟨by first | exact Nat.le_of_ble_eq_true rfl | omega, by first | exact Nat.le_of_ble_eq_true rfl | omega⟩) hS (by omega) (fun _ _ _ _ _ h => h.elim) (fun r8 H7 locs hq hF hS => ?_)
      have hf2 := hf2.fr hF (by omega)
      have hf11 := hf11.fr hF (by omega)
      have hD := hD.fr hF (by omega)
      have hLA := hLA.fr hF (by omega)
      have hTd0 := hTd0.fr hF (by omega)
      obtain ⟨hr_, hOn⟩ := hq
      refine x_rw (z := bI false) hr_ ?_
      replace hOn : MO G y (nI L.length) 0 H7 := hOn
      have hMT := hMT.setO hF hOn
      have hO := hOn
      refine x_if_neB (tgt := 44) hx hb dX3_word_26 (by decide) (fun c26 => ?_) (fun c26 => ?_)
      · exact absurd c26 (by decide)
      · obtain ⟨k1, hk1, rfl⟩ := okNum1b (n := 5) (inB_iff.mp c7)
        have hway := isWayB_iff.mp c14
        refine lv_aload_n hx hb dX3_word_29 rfl (lv_at hl 0 rfl) ?_
        refine lv_aload_n hx hb dX3_word_30 rfl (lv_at hl 0 rfl) ?_
        refine lv_iconst (v := nI 0) hx hb dX3_word_31 (by decide) ?_
        refine x_rw (z := bI false) (by decide) ?_
        refine lv_iload_n hx hb dX3_word_32 rfl (lv_at hl 3 rfl) ?_
        refine lv_iload_n hx hb dX3_word_33 rfl (lv_at hl 2 rfl) ?_
        refine x_goI_ro (x_runV (As := [.int (bI false), .int (nI h), .int (nI k1)]) (rest := [.ref y]) ⟨hx, hb, hml, hown, hts⟩ hE h0 hS (c_X3_isJoined l G y L 0 false h 2 k1 (by first | exact Or.inl ⟨rfl, rfl⟩ | exact Or.inr ⟨rfl, rfl⟩) (by omega) (by omega) hLd H7 hO hTd0) (cwV 3 hts gX3_word_X3_isJoined rfl rfl rfl (by decide +kernel) ⟨Nat.le_of_ble_eq_true rfl, Nat.le_of_ble_eq_true rfl⟩) (gO.recv (C := RX3) hK hO rfl) (by omega) rfl rfl hl.1 rfl (lv_room (Nat.le_of_ble_eq_true rfl)) dX3_word_34 ⟨by first | exact Nat.le_of_ble_eq_true rfl | omega, by first | exact Nat.le_of_ble_eq_true rfl | omega⟩) hS (by omega) (fun _ _ _ _ _ h => h.elim) (fun locs hq hS => ?_)
        rcases Bool.eq_false_or_eq_true (jB L h 2 (k1)) with hj | hj
        · refine x_rw (z := bI true) (congrArg bI hj) ?_
          refine lv_iconst (v := nI 2) hx hb dX3_word_37 (by decide) ?_
          refine x_goI (x_runV (As := [.int (bI true), .int (nI 2)]) (rest := []) ⟨hx, hb, hml, hown, hts⟩ hE h0 hS (c_X3_no l G y (nI L.length) 0 true 2 H7 hO) (cwV 2 hts gX3_word_X3_no rfl rfl rfl (by decide +kernel) ⟨Nat.le_of_ble_eq_true rfl, Nat.le_of_ble_eq_true rfl⟩) (gO.recv (C := RX3) hK hO rfl) (by omega) rfl rfl hl.1 rfl (lv_room (Nat.le_of_ble_eq_true rfl)) dX3_word_38 ⟨by first | exact Nat.le_of_ble_eq_true rfl | omega, by first | exact Nat.le_of_ble_eq_true rfl | omega⟩) hS (by omega) (fun _ _ _ _ _ h => h.elim) (fun r11 H10 locs hq hF hS => ?_)
          have hf2 := hf2.fr hF (by omega)
          have hf11 := hf11.fr hF (by omega)
          have hD := hD.fr hF (by omega)
          have hLA := hLA.fr hF (by omega)
          have hTd0 := hTd0.fr hF (by omega)
          obtain ⟨hr_, hOn⟩ := hq
          refine x_rw (z := bI false) hr_ ?_
          replace hOn : MO G y (nI L.length) 0 H10 := hOn
          have hMT := hMT.setO hF hOn
          have hO := hOn
          refine x_if_eqB (tgt := 46) hx hb dX3_word_41 (by decide) (fun c41 => ?_) (fun c41 => ?_)
          · have hjn := jB_iff.mp hj
            have hgL := hLd.resolve_left (fun g => by have := hjn.1; rw [g] at this; exact absurd this (by decide))
            refine lv_aload_n hx hb dX3_word_46 rfl (lv_at hl 0 rfl) ?_
            refine lv_iload_n hx hb dX3_word_47 rfl (lv_at hl 3 rfl) ?_
            refine x_goV (x_runV (As := [.int (nI h)]) (rest := []) ⟨hx, hb, hml, hown, hts⟩ hE h0 hS (c_X3_join l G y L 0 h (by omega) (by have hj4 := hjn.2.2.2; exact (Decidable.em (h = 110)).elim Or.inl (fun g => by rw [if_neg g] at hj4; exact Or.inr (by omega))) H10 hO hTd0) (cwV 1 hts gX3_word_X3_join rfl rfl rfl (by decide +kernel) ⟨Nat.le_of_ble_eq_true rfl, Nat.le_of_ble_eq_true rfl⟩) (gO.recv (C := RX3) hK hO rfl) (by omega) rfl rfl hl.1 rfl (lv_room (Nat.le_of_ble_eq_true rfl)) dX3_word_48 ⟨by first | exact Nat.le_of_ble_eq_true rfl | omega, by first | exact Nat.le_of_ble_eq_true rfl | omega⟩) hS (by omega) (fun _ _ _ _ _ h => h.elim) (fun  H12 locs hq hF hS => ?_)
            have hf2 := hf2.fr hF (by omega)
            have hf11 := hf11.fr hF (by omega)
            have hLA := hLA.fr hF (by omega)
            obtain ⟨hO, hTj⟩ := hq
            have hMT0 := hMT
            have hFj := hF
            obtain ⟨fj, hD, hDf, hDn, hDc⟩ := id hTj
            have hroom : (jn L h).length + k1 ≤ 60 := by have := jn_len (L := L) (how := h) (n := k1); have hj4 := hjn.2.2.2; omega
            have eW0 : jn L h = (jn L h ++ wd (cd code) 0) := (List.append_nil _).symm
            replace hO : MO G y (nI (jn L h ++ wd (cd code) 0).length) 0 H12 := by rw [← eW0]; exact hO
            replace hDf : ∀ i, i < (jn L h ++ wd (cd code) 0).length → fj i = nI (cg (jn L h ++ wd (cd code) 0) i) := by rw [← eW0]; exact hDf
            refine lv_iload_n hx hb dX3_word_51 rfl (lv_at hl 1 rfl) ?_
            refine lv_ldc hx hb hown hw0 dX3_word_52 ?_
            refine x_rw (z := nI 2147483647) (by decide) ?_
            refine lv_iand hx hb dX3_word_54 ?_
            refine x_rw (z := (nI (cd code))) (cd_and code) ?_
            refine lv_istore (lv' := [(4, .int (nI (cd code))), (0, .ref y), (1, .int code), (2, .int (nI k1)), (3, .int (nI h))]) hx hb dX3_word_55 hl (by decide) rfl (fun ls hl => ?_)
            obtain ⟨Hb, hHb⟩ : ∃ z, z = H12 := ⟨_, rfl⟩
            have hFl : gF y (y + 2) Hb H12 := by rw [hHb]; exact gF.rf
            rw [← hHb] at hFj
            clear hHb
            refine lv_iconst (v := nI 0) hx hb dX3_word_57 (by decide) ?_
            refine lv_istore (lv' := [(5, .int (nI 0)), (4, .int (nI (cd code))), (0, .ref y), (1, .int code), (2, .int (nI k1)), (3, .int (nI h))]) hx hb dX3_word_58 hl (by decide) rfl (fun ls hl => ?_)
            have loop60 : ∀ (fu : Nat) (q j : Nat) (g : Nat → Int32) (hj5 : j ≤ k1) (hq31 : q < 2147483648) (hqv : q = cd code / 52 ^ j) (hg0 : ∀ i, i < (jn L h ++ wd (cd code) j).length → g i = nI (cg (jn L h ++ wd (cd code) j) i)) (H : Heap) (locs : List Loc) (hS : va_S (gA y (y + 34) H0.size) H0 H locs) (hf2 : gQ G (y + 2) 4 8 f2 H) (hf11 : gI G (y + 11) 1 8 f11 H) (hO : gO G y 3 [.ref (y + 1), .int (nI ((jn L h ++ wd (cd code) j).length)), .ref (y + 2), .ref (y + 11), .ref (y + 12), .ref (y + 13), .ref (y + 16), .ref (y + 25), .int 0] H) (hD : gI G (y + 1) 0 60 g H) (hLA : LA G y w H) (hFl : gF y (y + 2) Hb H) (ls : Array Slot), k1 - j < fu → lv_has ls 7 [(5, .int (nI j)), (4, .int (nI q)), (3, .int (nI h)), (2, .int (nI k1)), (1, .int code), (0, .ref y)] → W p l e RMX3_word s m args below meth c H locs (0 + 0 + 0 + 0 + 0 + 0 + 0) (0 + 0 + 0 + 0 + 0 + 0 + 0) (XQ below args s H0 y (y + 34) 0 0 (qI (fun r H1 => MR G y (rs2 (okP 5 (nI k1) ∧ isWay h) (Jn L h 2 (ix (nI k1)))) (r = nI (jn L h ++ wd (cd code) (ix (nI k1))).length) (jn L h ++ wd (cd code) (ix (nI k1))) L txt txt H1)) xN) (F0 m 60 ls []) := by
              intro fu60
              induction fu60 with
              | zero => intro q j g hj5 hq31 hqv hg0 H locs hS hf2 hf11 hO hD hLA hFl ls hmu; exact absurd hmu (Nat.not_lt_zero _)
              | succ fu60 ih60 =>
                intro q j g hj5 hq31 hqv hg0 H locs hS hf2 hf11 hO hD hLA hFl ls hmu60 hl
                refine lv_iload hx hb dX3_word_60 (lv_at hl 0 rfl) ?_
                refine lv_iload_n hx hb dX3_word_62 rfl (lv_at hl 3 rfl) ?_
                refine x_icmp_ge (tgt := 129) hx hb (by omega) (by omega) dX3_word_63 (by decide) (fun c63 => ?_) (fun c63 => ?_)
                · refine lv_aload_n hx hb dX3_word_129 rfl (lv_at hl 5 rfl) ?_
                  obtain rfl : k1 = j := by omega
                  have hgN := Gt_word hgL hway hjn.2.1 (r := cd code) (k := k1) (by omega) (by omega) (by rw [List.length_append, wd_len, jn_len]; exact hjn.2.2.2)
                  have hMT2 := hMT0.setD (hFj.trans hFl (by omega)) hO (TA_mk hD hg0 hgN) (Or.inr hgN)
                  refine x_get (ci := 3) hx hb hts hown hK rfl hw2 1 (by decide) hw1 hO rfl dX3_word_130 ?_
                  exact x_iret hx hb hr hlocks h0 hS (by omega) (by omega) dX3_word_133 (MR.ok (rs2_y ⟨okP_of hk1, hway⟩ (by rw [ix_N (by omega)]; exact hjn)) (by rw [ix_N (by omega)]) (by rw [ix_N (by omega)]; exact hMT2.W hLA))
                · have elj : (jn L h ++ wd (cd code) j).length = (jn L h).length + j := by rw [List.length_append, wd_len]
                  refine lv_iload hx hb dX3_word_66 (lv_at hl 1 rfl) ?_
                  refine lv_bipush (v := nI 52) hx hb dX3_word_68 (by decide) ?_
                  refine lv_irem hx hb dX3_word_70 (by decide) ?_
                  refine x_rw (z := nI (q % 52)) (pk_rem (by omega) (by omega) (by omega)) ?_
                  refine lv_istore (lv' := [(6, .int (nI (q % 52))), (5, .int (nI j)), (4, .int (nI q)), (3, .int (nI h)), (2, .int (nI k1)), (1, .int code), (0, .ref y)]) hx hb dX3_word_71 hl (by decide) rfl (fun ls hl => ?_)
                  refine lv_aload_n hx hb dX3_word_73 rfl (lv_at hl 6 rfl) ?_
                  refine x_get (ci := 3) hx hb hts hown hK rfl hw2 0 (by decide) hw3 hO rfl dX3_word_74 ?_
                  refine lv_aload_n hx hb dX3_word_77 rfl (lv_at hl 6 rfl) ?_
                  refine x_get (ci := 3) hx hb hts hown hK rfl hw2 1 (by decide) hw1 hO rfl dX3_word_78 ?_
                  refine lv_iload hx hb dX3_word_81 (lv_at hl 0 rfl) ?_
                  refine lv_bipush (v := nI 26) hx hb dX3_word_83 (by decide) ?_
                  refine x_icmp_ge (tgt := 96) hx hb (by omega) (by omega) dX3_word_85 (by decide) (fun c85 => ?_) (fun c85 => ?_)
                  · refine lv_bipush (v := nI 65) hx hb dX3_word_96 (by decide) ?_
                    refine lv_iload hx hb dX3_word_98 (lv_at hl 0 rfl) ?_
                    refine lv_iadd hx hb dX3_word_100 ?_
                    refine x_rw (z := nI (65 + (q % 52))) (nI_add _ _) ?_
                    refine lv_bipush (v := nI 26) hx hb dX3_word_101 (by decide) ?_
                    refine lv_isub hx hb dX3_word_103 ?_
                    refine x_rw (z := nI ((65 + (q % 52)) - 26)) (pk_sub (by omega)) ?_
                    refine x_rw (z := nI (ltr (q % 52))) (congrArg nI (by first | exact (ltr_lo c85).symm | exact (ltr_hi c85).symm)) ?_
                    have hlt := ltr_lt (r := q % 52) (by omega)
                    refine lv_i2c (v := nI (ltr (q % 52))) hx hb dX3_word_104 (x_i2c (by omega)) ?_
                    refine x_cast hx hb hK hD (by omega) (by decide) (by omega) hS (by unfold gA; omega) dX3_word_105 (fun H13 locs hD hF hz hS => ?_)
                    have hf2 := hf2.fr hF (by omega)
                    have hf11 := hf11.fr hF (by omega)
                    have hO := hO.fr hF (by omega)
                    have hLA := hLA.fr hF (by omega)
                    have hFl := hFl.trans hF (by omega)
                    refine lv_aload_n hx hb dX3_word_106 rfl (lv_at hl 6 rfl) ?_
                    refine lv_dup hx hb dX3_word_107 rfl ?_
                    refine x_get (ci := 3) hx hb hts hown hK rfl hw2 1 (by decide) hw1 hO rfl dX3_word_108 ?_
                    refine lv_iconst (v := nI 1) hx hb dX3_word_111 (by decide) ?_
                    refine lv_iadd hx hb dX3_word_112 ?_
                    refine x_rw (z := nI (((jn L h ++ wd (cd code) j).length) + 1)) (nI_add _ _) ?_
                    refine x_put (ci := 3) hx hb hts hown hK rfl hw2 tyX3_ok nmX3 1 (by decide) hw1 rfl (tyX3_ok 1 (by decide)) rfl rfl hO (Nat.le_of_ble_eq_true rfl) hS (by unfold gA; omega) dX3_word_113 (fun H14 locs hO hF hz hS => ?_)
                    have hO : gO G y 3 [.ref (y + 1), .int (nI (((jn L h ++ wd (cd code) j).length) + 1)), .ref (y + 2), .ref (y + 11), .ref (y + 12), .ref (y + 13), .ref (y + 16), .ref (y + 25), .int 0] H14 := hO
                    have hf2 := hf2.fr hF (by omega)
                    have hf11 := hf11.fr hF (by omega)
                    have hD := hD.fr hF (by omega)
                    have hLA := hLA.fr hF (by omega)
                    have hFl := hFl.trans hF (by omega)
                    have elen : (jn L h ++ wd (cd code) j).length + 1 = (jn L h ++ wd (cd code) (j + 1)).length := by rw [wd_app]; simp; omega
                    rw [elen] at hO
                    have hg1 := wd_ext (x := ltr (q % 52)) hg0 (by rw [hqv])
                    refine lv_iload hx hb dX3_word_116 (lv_at hl 2 rfl) ?_
                    refine lv_bipush (v := nI 52) hx hb dX3_word_118 (by decide) ?_
                    refine lv_idiv hx hb dX3_word_120 (by decide) ?_
                    refine x_rw (z := nI (q / 52)) (pk_div (by omega) (by omega) (by omega)) ?_
                    refine lv_istore (lv' := [(4, .int (nI (q / 52))), (6, .int (nI (q % 52))), (5, .int (nI j)), (3, .int (nI h)), (2, .int (nI k1)), (1, .int code), (0, .ref y)]) hx hb dX3_word_121 hl (by decide) rfl (fun ls hl => ?_)
                    refine lv_iinc (v := nI (j + 1)) (lv' := [(5, .int (nI (j + 1))), (4, .int (nI (q / 52))), (6, .int (nI (q % 52))), (3, .int (nI h)), (2, .int (nI k1)), (1, .int code), (0, .ref y)]) hx hb dX3_word_123 hl (k := 2) rfl (nI_1 _) (by decide) rfl (fun ls hl => ?_)
                    refine lv_goto (tgt := 60) hx hb dX3_word_126 (by decide) ?_
                    exact ih60 (q / 52) (j + 1) (upd g ((jn L h ++ wd (cd code) j).length) (nI (ltr (q % 52)))) (by omega) (by omega) (by rw [hqv, Nat.div_div_eq_div_mul, Nat.pow_succ]) hg1 H14 _ hS hf2 hf11 hO hD hLA hFl ls (by omega) (lv_sub hl [0, 1, 3, 4, 5, 6] rfl)
                  · refine lv_bipush (v := nI 97) hx hb dX3_word_88 (by decide) ?_
                    refine lv_iload hx hb dX3_word_90 (lv_at hl 0 rfl) ?_
                    refine lv_iadd hx hb dX3_word_92 ?_
                    refine x_rw (z := nI (97 + (q % 52))) (nI_add _ _) ?_
                    refine lv_goto (tgt := 104) hx hb dX3_word_93 (by decide) ?_
                    refine x_rw (z := nI (ltr (q % 52))) (congrArg nI (by first | exact (ltr_lo c85).symm | exact (ltr_hi c85).symm)) ?_
                    have hlt := ltr_lt (r := q % 52) (by omega)
                    refine lv_i2c (v := nI (ltr (q % 52))) hx hb dX3_word_104 (x_i2c (by omega)) ?_
                    refine x_cast hx hb hK hD (by omega) (by decide) (by omega) hS (by unfold gA; omega) dX3_word_105 (fun H15 locs hD hF hz hS => ?_)
                    have hf2 := hf2.fr hF (by omega)
                    have hf11 := hf11.fr hF (by omega)
                    have hO := hO.fr hF (by omega)
                    have hLA := hLA.fr hF (by omega)
                    have hFl := hFl.trans hF (by omega)
                    refine lv_aload_n hx hb dX3_word_106 rfl (lv_at hl 6 rfl) ?_
                    refine lv_dup hx hb dX3_word_107 rfl ?_
                    refine x_get (ci := 3) hx hb hts hown hK rfl hw2 1 (by decide) hw1 hO rfl dX3_word_108 ?_
                    refine lv_iconst (v := nI 1) hx hb dX3_word_111 (by decide) ?_
                    refine lv_iadd hx hb dX3_word_112 ?_
                    refine x_rw (z := nI (((jn L h ++ wd (cd code) j).length) + 1)) (nI_add _ _) ?_
                    refine x_put (ci := 3) hx hb hts hown hK rfl hw2 tyX3_ok nmX3 1 (by decide) hw1 rfl (tyX3_ok 1 (by decide)) rfl rfl hO (Nat.le_of_ble_eq_true rfl) hS (by unfold gA; omega) dX3_word_113 (fun H16 locs hO hF hz hS => ?_)
                    have hO : gO G y 3 [.ref (y + 1), .int (nI (((jn L h ++ wd (cd code) j).length) + 1)), .ref (y + 2), .ref (y + 11), .ref (y + 12), .ref (y + 13), .ref (y + 16), .ref (y + 25), .int 0] H16 := hO
                    have hf2 := hf2.fr hF (by omega)
                    have hf11 := hf11.fr hF (by omega)
                    have hD := hD.fr hF (by omega)
                    have hLA := hLA.fr hF (by omega)
                    have hFl := hFl.trans hF (by omega)
                    have elen : (jn L h ++ wd (cd code) j).length + 1 = (jn L h ++ wd (cd code) (j + 1)).length := by rw [wd_app]; simp; omega
                    rw [elen] at hO
                    have hg1 := wd_ext (x := ltr (q % 52)) hg0 (by rw [hqv])
                    refine lv_iload hx hb dX3_word_116 (lv_at hl 2 rfl) ?_
                    refine lv_bipush (v := nI 52) hx hb dX3_word_118 (by decide) ?_
                    refine lv_idiv hx hb dX3_word_120 (by decide) ?_
                    refine x_rw (z := nI (q / 52)) (pk_div (by omega) (by omega) (by omega)) ?_
                    refine lv_istore (lv' := [(4, .int (nI (q / 52))), (6, .int (nI (q % 52))), (5, .int (nI j)), (3, .int (nI h)), (2, .int (nI k1)), (1, .int code), (0, .ref y)]) hx hb dX3_word_121 hl (by decide) rfl (fun ls hl => ?_)
                    refine lv_iinc (v := nI (j + 1)) (lv' := [(5, .int (nI (j + 1))), (4, .int (nI (q / 52))), (6, .int (nI (q % 52))), (3, .int (nI h)), (2, .int (nI k1)), (1, .int code), (0, .ref y)]) hx hb dX3_word_123 hl (k := 2) rfl (nI_1 _) (by decide) rfl (fun ls hl => ?_)
                    refine lv_goto (tgt := 60) hx hb dX3_word_126 (by decide) ?_
                    exact ih60 (q / 52) (j + 1) (upd g ((jn L h ++ wd (cd code) j).length) (nI (ltr (q % 52)))) (by omega) (by omega) (by rw [hqv, Nat.div_div_eq_div_mul, Nat.pow_succ]) hg1 H16 _ hS hf2 hf11 hO hD hLA hFl ls (by omega) (lv_sub hl [0, 1, 3, 4, 5, 6] rfl)
            exact loop60 _ (cd code) 0 fj (by omega) (by omega) (by rw [Nat.pow_zero, Nat.div_one]) hDf H12 _ hS hf2 hf11 hO hD hLA hFl ls (Nat.lt_succ_self _) (lv_sub hl [0, 1, 5, 4, 3, 2] rfl)
          · exact absurd c41 (by decide)
        · refine x_rw (z := bI false) (congrArg bI hj) ?_
          refine lv_iconst (v := nI 2) hx hb dX3_word_37 (by decide) ?_
          refine x_goI (x_runV (As := [.int (bI false), .int (nI 2)]) (rest := []) ⟨hx, hb, hml, hown, hts⟩ hE h0 hS (c_X3_no l G y (nI L.length) 0 false 2 H7 hO) (cwV 2 hts gX3_word_X3_no rfl rfl rfl (by decide +kernel) ⟨Nat.le_of_ble_eq_true rfl, Nat.le_of_ble_eq_true rfl⟩) (gO.recv (C := RX3) hK hO rfl) (by omega) rfl rfl hl.1 rfl (lv_room (Nat.le_of_ble_eq_true rfl)) dX3_word_38 ⟨by first | exact Nat.le_of_ble_eq_true rfl | omega, by first | exact Nat.le_of_ble_eq_true rfl | omega⟩) hS (by omega) (fun _ _ _ _ _ h => h.elim) (fun r18 H17 locs hq hF hS => ?_)
          have hf2 := hf2.fr hF (by omega)
          have hf11 := hf11.fr hF (by omega)
          have hD := hD.fr hF (by omega)
          have hLA := hLA.fr hF (by omega)
          have hTd0 := hTd0.fr hF (by omega)
          obtain ⟨hr_, hOn⟩ := hq
          refine x_rw (z := bI true) hr_ ?_
          replace hOn : MO G y (nI L.length) (nI 2) H17 := hOn
          have hMT := hMT.setO hF hOn
          have hO := hOn
          refine x_if_eqB (tgt := 46) hx hb dX3_word_41 (by decide) (fun c41 => ?_) (fun c41 => ?_)
          · exact absurd c41 (by decide)
          · refine lv_iconst (v := nI 0) hx hb dX3_word_44 (by decide) ?_
            exact x_iret hx hb hr hlocks h0 hS (by omega) (by omega) dX3_word_45 (MR.no n20 (rs2_2 ⟨okP_of hk1, hway⟩ (by rw [ix_N (by omega)]; exact fun g => by rw [jB_iff.mpr g] at hj; cases hj)) (hMT.W hLA))

abbrev RMX3_drop : Room := { frames := 1, cells := 0, slots := 0, locals := 12 }
set_option maxHeartbeats 4000000 in
set_option maxRecDepth 100000 in
theorem c_X3_drop (l : Launch) (G : gG) (y : Nat) (L : List Nat) (txt : Nat → List Nat) (th : Int32) (H0 : Heap) (hMW : MW G y L txt th H0) : XM l yX3_drop wsX3_drop RMX3_drop G [.ref y] H0 y (y + 34) 0 0 (qI (fun r H1 => r = nI L.length ∧ MW G y [] txt 0 H1)) xN := by
  refine x_ofW (cc := cX3_drop) (maxL := 2) (ret := (some .int)) (by decide) rfl (Nat.le_of_ble_eq_true rfl) ?_
  intro p e s m below meth c hx hb hr hml hown hts hlocks hout hin2 h0 hE ls hl
  replace hown : s.vm.findClass RX3 = some m.cls := hown
  have hK := hE.1
  have hS : va_S (gA y (y + 34) H0.size) H0 H0 [] := va_S.rf
  generalize hargs : ([.ref y] : List Value).toArray = args at hts ⊢
  have hw0 := hts (.fieldLink RX3 39 "ReleaseledgerModel" "thrown" "I") (by decide +kernel)
  have hw1 : ∀ w ∈ u_ws RX3 TX3 9, w ∈ wsX3_drop := by decide +kernel
  have hw2 := hts (.fieldLink RX3 92 "ReleaseledgerModel" "draftSize" "I") (by decide +kernel)
  have hl : lv_has ls 2 [(0, .ref y)] := hl
  obtain ⟨tad, w, hMT, hLA⟩ := hMW
  generalize hTe : H0.size = T at hMT
  obtain ⟨hO, hTd, ⟨f2, hf2, hf2b⟩, ⟨f11, hf11, hf11b⟩, htx, hLd, hyT, hTs⟩ := id hMT
  have hTd0 := hTd
  obtain ⟨fd, hD, hDf, hDn, hDc⟩ := hTd
  have hTe2 : T = H0.size := hTe.symm
  refine lv_aload_n hx hb dX3_drop_0 rfl (lv_at hl 0 rfl) ?_
  refine lv_iconst (v := nI 0) hx hb dX3_drop_1 (by decide) ?_
  refine x_put (ci := 3) hx hb hts hown hK rfl hw1 tyX3_ok nmX3 8 (by decide) hw0 rfl (tyX3_ok 8 (by decide)) rfl rfl hO (Nat.le_of_ble_eq_true rfl) hS (by unfold gA; omega) dX3_drop_2 (fun H1 locs hO hF hz hS => ?_)
  have hO : gO G y 3 [.ref (y + 1), .int (nI L.length), .ref (y + 2), .ref (y + 11), .ref (y + 12), .ref (y + 13), .ref (y + 16), .ref (y + 25), .int (nI 0)] H1 := hO
  have hLA := hLA.fr hF (by omega)
  have hF1 := hF
  refine lv_aload_n hx hb dX3_drop_5 rfl (lv_at hl 0 rfl) ?_
  refine x_get (ci := 3) hx hb hts hown hK rfl hw1 1 (by decide) hw2 hO rfl dX3_drop_6 ?_
  refine lv_istore_n (lv' := [(1, .int (nI L.length)), (0, .ref y)]) hx hb dX3_drop_9 rfl hl (by decide) rfl (fun ls hl => ?_)
  refine lv_aload_n hx hb dX3_drop_10 rfl (lv_at hl 1 rfl) ?_
  refine lv_iconst (v := nI 0) hx hb dX3_drop_11 (by decide) ?_
  refine x_put (ci := 3) hx hb hts hown hK rfl hw1 tyX3_ok nmX3 1 (by decide) hw2 rfl (tyX3_ok 1 (by decide)) rfl rfl hO (Nat.le_of_ble_eq_true rfl) hS (by unfold gA; omega) dX3_drop_12 (fun H2 locs hO hF hz hS => ?_)
  have hO : gO G y 3 [.ref (y + 1), .int (nI 0), .ref (y + 2), .ref (y + 11), .ref (y + 12), .ref (y + 13), .ref (y + 16), .ref (y + 25), .int (nI 0)] H2 := hO
  have hLA := hLA.fr hF (by omega)
  have hF2 := hF
  have hMT2 := hMT.setD ((hF1.widen (by omega) : gF y (y + 2) _ _).trans hF2 (by omega)) (th2 := 0) (D := []) hO ((hTd0.nil.fr hF1 (by omega)).fr hF2 (by omega)) (Or.inl rfl)
  refine lv_iload_n hx hb dX3_drop_15 rfl (lv_at hl 0 rfl) ?_
  exact x_iret hx hb hr hlocks h0 hS (by omega) (by omega) dX3_drop_16 (⟨rfl, hMT2.W hLA⟩)

abbrev RMX3_sign : Room := { frames := 2, cells := 0, slots := 0, locals := 34 }
set_option maxHeartbeats 4000000 in
set_option maxRecDepth 100000 in
theorem c_X3_sign (l : Launch) (G : gG) (y : Nat) (L : List Nat) (txt : Nat → List Nat) (th : Int32) (x : Int32) (H0 : Heap) (hMW : MW G y L txt th H0) : XM l yX3_sign wsX3_sign RMX3_sign G [.ref y, .int x] H0 y (y + 34) 0 0 (qI (fun r H1 => MR G y (rs1 (okN L.length x)) (r = nI (cg L (ix x))) L L txt txt H1)) xN := by
  refine x_ofW (cc := cX3_sign) (maxL := 2) (ret := (some .char)) (by decide) rfl (Nat.le_of_ble_eq_true rfl) ?_
  intro p e s m below meth c hx hb hr hml hown hts hlocks hout hin2 h0 hE ls hl
  replace hown : s.vm.findClass RX3 = some m.cls := hown
  have hK := hE.1
  have hS : va_S (gA y (y + 34) H0.size) H0 H0 [] := va_S.rf
  generalize hargs : ([.ref y, .int x] : List Value).toArray = args at hts ⊢
  have hw0 := hts (.fieldLink RX3 92 "ReleaseledgerModel" "draftSize" "I") (by decide +kernel)
  have hw1 : ∀ w ∈ u_ws RX3 TX3 9, w ∈ wsX3_sign := by decide +kernel
  have hw2 := hts (.fieldLink RX3 9 "ReleaseledgerModel" "draft" "[C") (by decide +kernel)
  have hl : lv_has ls 2 [(0, .ref y), (1, .int x)] := hl
  obtain ⟨tad, w, hMT, hLA⟩ := hMW
  generalize hTe : H0.size = T at hMT
  obtain ⟨hO, hTd, ⟨f2, hf2, hf2b⟩, ⟨f11, hf11, hf11b⟩, htx, hLd, hyT, hTs⟩ := id hMT
  have hTd0 := hTd
  obtain ⟨fd, hD, hDf, hDn, hDc⟩ := hTd
  have hTe2 : T = H0.size := hTe.symm
  refine lv_aload_n hx hb dX3_sign_0 rfl (lv_at hl 0 rfl) ?_
  refine lv_iload_n hx hb dX3_sign_1 rfl (lv_at hl 1 rfl) ?_
  refine lv_iconst (v := nI 0) hx hb dX3_sign_2 (by decide) ?_
  refine lv_aload_n hx hb dX3_sign_3 rfl (lv_at hl 0 rfl) ?_
  refine x_get (ci := 3) hx hb hts hown hK rfl hw1 1 (by decide) hw0 hO rfl dX3_sign_4 ?_
  refine lv_iconst (v := nI 1) hx hb dX3_sign_7 (by decide) ?_
  refine lv_isub hx hb dX3_sign_8 ?_
  refine x_rw (z := (nI L.length - nI 1)) rfl ?_
  refine x_goI_ro (x_runS (As := [.int x, .int (nI 0), .int (nI L.length - nI 1)]) (rest := [.ref y]) ⟨hx, hb, hml, hown, hts⟩ hE h0 hS (c_X3_in l G x (nI 0) (nI L.length - nI 1) H0) (va_cwS 3 hts gX3_sign_X3_in rfl rfl rfl (by decide +kernel) ⟨Nat.le_of_ble_eq_true rfl, Nat.le_of_ble_eq_true rfl⟩) (by omega) rfl rfl hl.1 rfl (lv_room (Nat.le_of_ble_eq_true rfl)) dX3_sign_9 ⟨by first | exact Nat.le_of_ble_eq_true rfl | omega, by first | exact Nat.le_of_ble_eq_true rfl | omega⟩) hS (by omega) (fun _ _ _ _ _ h => h.elim) (fun locs hq hS => ?_)
  rcases Bool.eq_false_or_eq_true (inB x (nI 0) (nI L.length - nI 1)) with hs | hs
  · refine x_rw (z := bI true) (congrArg bI hs) ?_
    refine lv_iconst (v := nI 1) hx hb dX3_sign_12 (by decide) ?_
    refine x_goI (x_runV (As := [.int (bI true), .int (nI 1)]) (rest := []) ⟨hx, hb, hml, hown, hts⟩ hE h0 hS (c_X3_no l G y (nI L.length) th true 1 H0 hO) (cwV 2 hts gX3_sign_X3_no rfl rfl rfl (by decide +kernel) ⟨Nat.le_of_ble_eq_true rfl, Nat.le_of_ble_eq_true rfl⟩) (gO.recv (C := RX3) hK hO rfl) (by omega) rfl rfl hl.1 rfl (lv_room (Nat.le_of_ble_eq_true rfl)) dX3_sign_13 ⟨by first | exact Nat.le_of_ble_eq_true rfl | omega, by first | exact Nat.le_of_ble_eq_true rfl | omega⟩) hS (by omega) (fun _ _ _ _ _ h => h.elim) (fun r3 H2 locs hq hF hS => ?_)
    have hf2 := hf2.fr hF (by omega)
    have hf11 := hf11.fr hF (by omega)
    have hD := hD.fr hF (by omega)
    have hLA := hLA.fr hF (by omega)
    obtain ⟨hr_, hOn⟩ := hq
    refine x_rw (z := bI false) hr_ ?_
    replace hOn : MO G y (nI L.length) 0 H2 := hOn
    have hMT := hMT.setO hF hOn
    have hO := hOn
    refine x_if_eqB (tgt := 24) hx hb dX3_sign_16 (by decide) (fun c16 => ?_) (fun c16 => ?_)
    · obtain ⟨i, hi, rfl⟩ := (inB_okS (by omega)).mp hs
      have hcl := hDc _ (cg_mem (L := L) (i := i) (by omega))
      refine lv_aload_n hx hb dX3_sign_24 rfl (lv_at hl 0 rfl) ?_
      refine x_get (ci := 3) hx hb hts hown hK rfl hw1 0 (by decide) hw2 hO rfl dX3_sign_25 ?_
      refine lv_iload_n hx hb dX3_sign_28 rfl (lv_at hl 1 rfl) ?_
      refine x_cald hx hb hK hD (by omega) (by decide) dX3_sign_29 ?_
      refine x_rw (z := (nI (cg L i))) (hDf _ (by omega)) ?_
      exact x_zret hx hb hr hlocks h0 hS (by omega) (by omega) dX3_sign_30 (x_charN (by omega)) (MR.ok (rs1_y ⟨i, hi, rfl⟩) (by rw [ix_N (by omega)]) (hMT.W hLA))
    · exact absurd c16 (by decide)
  · refine x_rw (z := bI false) (congrArg bI hs) ?_
    refine lv_iconst (v := nI 1) hx hb dX3_sign_12 (by decide) ?_
    refine x_goI (x_runV (As := [.int (bI false), .int (nI 1)]) (rest := []) ⟨hx, hb, hml, hown, hts⟩ hE h0 hS (c_X3_no l G y (nI L.length) th false 1 H0 hO) (cwV 2 hts gX3_sign_X3_no rfl rfl rfl (by decide +kernel) ⟨Nat.le_of_ble_eq_true rfl, Nat.le_of_ble_eq_true rfl⟩) (gO.recv (C := RX3) hK hO rfl) (by omega) rfl rfl hl.1 rfl (lv_room (Nat.le_of_ble_eq_true rfl)) dX3_sign_13 ⟨by first | exact Nat.le_of_ble_eq_true rfl | omega, by first | exact Nat.le_of_ble_eq_true rfl | omega⟩) hS (by omega) (fun _ _ _ _ _ h => h.elim) (fun r5 H4 locs hq hF hS => ?_)
    have hf2 := hf2.fr hF (by omega)
    have hf11 := hf11.fr hF (by omega)
    have hD := hD.fr hF (by omega)
    have hLA := hLA.fr hF (by omega)
    obtain ⟨hr_, hOn⟩ := hq
    refine x_rw (z := bI true) hr_ ?_
    replace hOn : MO G y (nI L.length) (nI 1) H4 := hOn
    have hMT := hMT.setO hF hOn
    have hO := hOn
    refine x_if_eqB (tgt := 24) hx hb dX3_sign_16 (by decide) (fun c16 => ?_) (fun c16 => ?_)
    · exact absurd c16 (by decide)
    · refine lv_bipush (v := nI 32) hx hb dX3_sign_19 (by decide) ?_
      refine lv_goto (tgt := 30) hx hb dX3_sign_21 (by decide) ?_
      exact x_zret hx hb hr hlocks h0 hS (by omega) (by omega) dX3_sign_30 (x_charN (by omega)) (MR.no n10 (rs1_1 (fun g => inB_no hs (inB_okS (by omega)) g)) (hMT.W hLA))

abbrev RMX3_parse : Room := { frames := 6, cells := 2, slots := 62, locals := 128 }
set_option maxHeartbeats 4000000 in
set_option maxRecDepth 100000 in
theorem c_X3_parse (l : Launch) (G : gG) (y : Nat) (L : List Nat) (txt : Nat → List Nat) (th : Int32) (x : Int32) (H0 : Heap) (hMW : MW G y L txt th H0) : XM l yX3_parse wsX3_parse RMX3_parse G [.ref y, .int x] H0 y (y + 34) 2 62 (qI (fun r H1 => MR G y (rs2 (okN 8 x) (L ≠ [])) (r = ordr L (txt (ix x))) L L (up txt (ix x) L) txt H1)) xN := by
  refine x_ofW (cc := cX3_parse) (maxL := 2) (ret := (some .int)) (by decide) rfl (Nat.le_of_ble_eq_true rfl) ?_
  intro p e s m below meth c hx hb hr hml hown hts hlocks hout hin2 h0 hE ls hl
  replace hown : s.vm.findClass RX3 = some m.cls := hown
  have hK := hE.1
  have hS : va_S (gA y (y + 34) H0.size) H0 H0 [] := va_S.rf
  generalize hargs : ([.ref y, .int x] : List Value).toArray = args at hts ⊢
  have hw0 := hts (.fieldLink RX3 92 "ReleaseledgerModel" "draftSize" "I") (by decide +kernel)
  have hw1 : ∀ w ∈ u_ws RX3 TX3 9, w ∈ wsX3_parse := by decide +kernel
  have hw2 := hts (.fieldLink RX3 9 "ReleaseledgerModel" "draft" "[C") (by decide +kernel)
  have hl : lv_has ls 2 [(0, .ref y), (1, .int x)] := hl
  obtain ⟨tad, w, hMT, hLA⟩ := hMW
  generalize hTe : H0.size = T at hMT
  obtain ⟨hO, hTd, ⟨f2, hf2, hf2b⟩, ⟨f11, hf11, hf11b⟩, htx, hLd, hyT, hTs⟩ := id hMT
  have hTd0 := hTd
  obtain ⟨fd, hD, hDf, hDn, hDc⟩ := hTd
  have hTe2 : T = H0.size := hTe.symm
  refine lv_aload_n hx hb dX3_parse_0 rfl (lv_at hl 0 rfl) ?_
  refine lv_iload_n hx hb dX3_parse_1 rfl (lv_at hl 1 rfl) ?_
  refine x_goI_ro (x_runS (As := [.int x]) (rest := [.ref y]) ⟨hx, hb, hml, hown, hts⟩ hE h0 hS (c_X3_isSlot l G x H0) (va_cwS 1 hts gX3_parse_X3_isSlot rfl rfl rfl (by decide +kernel) ⟨Nat.le_of_ble_eq_true rfl, Nat.le_of_ble_eq_true rfl⟩) (by omega) rfl rfl hl.1 rfl (lv_room (Nat.le_of_ble_eq_true rfl)) dX3_parse_2 ⟨by first | exact Nat.le_of_ble_eq_true rfl | omega, by first | exact Nat.le_of_ble_eq_true rfl | omega⟩) hS (by omega) (fun _ _ _ _ _ h => h.elim) (fun locs hq hS => ?_)
  rcases Bool.eq_false_or_eq_true (inB x (nI 0) (nI 7)) with hs | hs
  · refine x_rw (z := bI true) (congrArg bI hs) ?_
    refine lv_iconst (v := nI 1) hx hb dX3_parse_5 (by decide) ?_
    refine x_goI (x_runV (As := [.int (bI true), .int (nI 1)]) (rest := []) ⟨hx, hb, hml, hown, hts⟩ hE h0 hS (c_X3_no l G y (nI L.length) th true 1 H0 hO) (cwV 2 hts gX3_parse_X3_no rfl rfl rfl (by decide +kernel) ⟨Nat.le_of_ble_eq_true rfl, Nat.le_of_ble_eq_true rfl⟩) (gO.recv (C := RX3) hK hO rfl) (by omega) rfl rfl hl.1 rfl (lv_room (Nat.le_of_ble_eq_true rfl)) dX3_parse_6 ⟨by first | exact Nat.le_of_ble_eq_true rfl | omega, by first | exact Nat.le_of_ble_eq_true rfl | omega⟩) hS (by omega) (fun _ _ _ _ _ h => h.elim) (fun r3 H2 locs hq hF hS => ?_)
    have hf2 := hf2.fr hF (by omega)
    have hf11 := hf11.fr hF (by omega)
    have hD := hD.fr hF (by omega)
    have hLA := hLA.fr hF (by omega)
    have hTd0 := hTd0.fr hF (by omega)
    obtain ⟨hr_, hOn⟩ := hq
    refine x_rw (z := bI false) hr_ ?_
    replace hOn : MO G y (nI L.length) 0 H2 := hOn
    have hMT := hMT.setO hF hOn
    have hO := hOn
    refine x_if_neB (tgt := 32) hx hb dX3_parse_9 (by decide) (fun c9 => ?_) (fun c9 => ?_)
    · exact absurd c9 (by decide)
    · obtain ⟨i, hi, rfl⟩ := (inB_okN (n := 7) (by decide)).mp hs
      refine lv_aload_n hx hb dX3_parse_12 rfl (lv_at hl 0 rfl) ?_
      refine lv_aload_n hx hb dX3_parse_13 rfl (lv_at hl 0 rfl) ?_
      refine x_get (ci := 3) hx hb hts hown hK rfl hw1 1 (by decide) hw0 hO rfl dX3_parse_14 ?_
      refine x_if_leN (tgt := 24) hx hb (by omega) dX3_parse_17 (by decide) (fun c17 => ?_) (fun c17 => ?_)
      · refine lv_iconst (v := nI 0) hx hb dX3_parse_24 (by decide) ?_
        refine x_rw (z := bI false) (by decide) ?_
        refine lv_iconst (v := nI 2) hx hb dX3_parse_25 (by decide) ?_
        refine x_goI (x_runV (As := [.int (bI false), .int (nI 2)]) (rest := []) ⟨hx, hb, hml, hown, hts⟩ hE h0 hS (c_X3_no l G y (nI L.length) 0 false 2 H2 hO) (cwV 2 hts gX3_parse_X3_no rfl rfl rfl (by decide +kernel) ⟨Nat.le_of_ble_eq_true rfl, Nat.le_of_ble_eq_true rfl⟩) (gO.recv (C := RX3) hK hO rfl) (by omega) rfl rfl hl.1 rfl (lv_room (Nat.le_of_ble_eq_true rfl)) dX3_parse_26 ⟨by first | exact Nat.le_of_ble_eq_true rfl | omega, by first | exact Nat.le_of_ble_eq_true rfl | omega⟩) hS (by omega) (fun _ _ _ _ _ h => h.elim) (fun r5 H4 locs hq hF hS => ?_)
        have hf2 := hf2.fr hF (by omega)
        have hf11 := hf11.fr hF (by omega)
        have hD := hD.fr hF (by omega)
        have hLA := hLA.fr hF (by omega)
        have hTd0 := hTd0.fr hF (by omega)
        obtain ⟨hr_, hOn⟩ := hq
        refine x_rw (z := bI true) hr_ ?_
        replace hOn : MO G y (nI L.length) (nI 2) H4 := hOn
        have hMT := hMT.setO hF hOn
        have hO := hOn
        refine x_if_eqB (tgt := 34) hx hb dX3_parse_29 (by decide) (fun c29 => ?_) (fun c29 => ?_)
        · exact absurd c29 (by decide)
        · refine lv_iconst (v := nI 0) hx hb dX3_parse_32 (by decide) ?_
          exact x_iret hx hb hr hlocks h0 hS (by omega) (by omega) dX3_parse_33 (MR.no n20 (rs2_2 ⟨i, hi, rfl⟩ (fun g => g (List.eq_nil_of_length_eq_zero c17))) (hMT.W hLA))
      · refine lv_iconst (v := nI 1) hx hb dX3_parse_20 (by decide) ?_
        refine lv_goto (tgt := 25) hx hb dX3_parse_21 (by decide) ?_
        refine x_rw (z := bI true) (by decide) ?_
        refine lv_iconst (v := nI 2) hx hb dX3_parse_25 (by decide) ?_
        refine x_goI (x_runV (As := [.int (bI true), .int (nI 2)]) (rest := []) ⟨hx, hb, hml, hown, hts⟩ hE h0 hS (c_X3_no l G y (nI L.length) 0 true 2 H2 hO) (cwV 2 hts gX3_parse_X3_no rfl rfl rfl (by decide +kernel) ⟨Nat.le_of_ble_eq_true rfl, Nat.le_of_ble_eq_true rfl⟩) (gO.recv (C := RX3) hK hO rfl) (by omega) rfl rfl hl.1 rfl (lv_room (Nat.le_of_ble_eq_true rfl)) dX3_parse_26 ⟨by first | exact Nat.le_of_ble_eq_true rfl | omega, by first | exact Nat.le_of_ble_eq_true rfl | omega⟩) hS (by omega) (fun _ _ _ _ _ h => h.elim) (fun r7 H6 locs hq hF hS => ?_)
        have hf2 := hf2.fr hF (by omega)
        have hf11 := hf11.fr hF (by omega)
        have hD := hD.fr hF (by omega)
        have hLA := hLA.fr hF (by omega)
        have hTd0 := hTd0.fr hF (by omega)
        obtain ⟨hr_, hOn⟩ := hq
        refine x_rw (z := bI false) hr_ ?_
        replace hOn : MO G y (nI L.length) 0 H6 := hOn
        have hMT := hMT.setO hF hOn
        have hO := hOn
        refine x_if_eqB (tgt := 34) hx hb dX3_parse_29 (by decide) (fun c29 => ?_) (fun c29 => ?_)
        · have hne : L ≠ [] := fun g => by rw [g] at c17; exact absurd c17 (by decide)
          have hgL := hLd.resolve_left hne
          refine lv_aload_n hx hb dX3_parse_34 rfl (lv_at hl 0 rfl) ?_
          refine lv_iload_n hx hb dX3_parse_35 rfl (lv_at hl 1 rfl) ?_
          refine lv_aload_n hx hb dX3_parse_36 rfl (lv_at hl 0 rfl) ?_
          refine x_get (ci := 3) hx hb hts hown hK rfl hw1 0 (by decide) hw2 hO rfl dX3_parse_37 ?_
          refine lv_aload_n hx hb dX3_parse_40 rfl (lv_at hl 0 rfl) ?_
          refine x_get (ci := 3) hx hb hts hown hK rfl hw1 1 (by decide) hw0 hO rfl dX3_parse_41 ?_
          refine x_goI (x_runV (As := [.int (nI i), .ref (y + 1), .int (nI L.length)]) (rest := []) ⟨hx, hb, hml, hown, hts⟩ hE h0 hS (c_X3_lay l G y T L txt tad 0 w i (by omega) (y + 1) L hgL (by omega) (by omega) H6 hMT hLA hTd0) (cwV 3 hts gX3_parse_X3_lay rfl rfl rfl (by decide +kernel) ⟨Nat.le_of_ble_eq_true rfl, Nat.le_of_ble_eq_true rfl⟩) (gO.recv (C := RX3) hK hO rfl) (by omega) rfl rfl hl.1 rfl (lv_room (Nat.le_of_ble_eq_true rfl)) dX3_parse_44 ⟨by first | exact Nat.le_of_ble_eq_true rfl | omega, by first | exact Nat.le_of_ble_eq_true rfl | omega⟩) hS (by omega) (fun _ _ _ _ _ h => h.elim) (fun r9 H8 locs hq hF hS => ?_)
          obtain ⟨rfl, hMW2⟩ := hq
          exact x_iret hx hb hr hlocks h0 hS (by omega) (by omega) dX3_parse_47 (MR.ok (rs2_y ⟨i, hi, rfl⟩ hne) (by rw [ix_N (by omega)]) (by rw [ix_N (by omega)]; exact hMW2))
        · exact absurd c29 (by decide)
  · refine x_rw (z := bI false) (congrArg bI hs) ?_
    refine lv_iconst (v := nI 1) hx hb dX3_parse_5 (by decide) ?_
    refine x_goI (x_runV (As := [.int (bI false), .int (nI 1)]) (rest := []) ⟨hx, hb, hml, hown, hts⟩ hE h0 hS (c_X3_no l G y (nI L.length) th false 1 H0 hO) (cwV 2 hts gX3_parse_X3_no rfl rfl rfl (by decide +kernel) ⟨Nat.le_of_ble_eq_true rfl, Nat.le_of_ble_eq_true rfl⟩) (gO.recv (C := RX3) hK hO rfl) (by omega) rfl rfl hl.1 rfl (lv_room (Nat.le_of_ble_eq_true rfl)) dX3_parse_6 ⟨by first | exact Nat.le_of_ble_eq_true rfl | omega, by first | exact Nat.le_of_ble_eq_true rfl | omega⟩) hS (by omega) (fun _ _ _ _ _ h => h.elim) (fun r11 H10 locs hq hF hS => ?_)
    have hf2 := hf2.fr hF (by omega)
    have hf11 := hf11.fr hF (by omega)
    have hD := hD.fr hF (by omega)
    have hLA := hLA.fr hF (by omega)
    have hTd0 := hTd0.fr hF (by omega)
    obtain ⟨hr_, hOn⟩ := hq
    refine x_rw (z := bI true) hr_ ?_
    replace hOn : MO G y (nI L.length) (nI 1) H10 := hOn
    have hMT := hMT.setO hF hOn
    have hO := hOn
    refine x_if_neB (tgt := 32) hx hb dX3_parse_9 (by decide) (fun c9 => ?_) (fun c9 => ?_)
    · refine lv_iconst (v := nI 0) hx hb dX3_parse_32 (by decide) ?_
      exact x_iret hx hb hr hlocks h0 hS (by omega) (by omega) dX3_parse_33 (MR.no n10 (rs2_1 (fun g => inB_no hs (inB_okN (n := 7) (by decide)) g)) (hMT.W hLA))
    · exact absurd c9 (by decide)

abbrev RMX3_triple : Room := { frames := 6, cells := 3, slots := 122, locals := 128 }
set_option maxHeartbeats 4000000 in
set_option maxRecDepth 100000 in
theorem c_X3_triple (l : Launch) (G : gG) (y : Nat) (L : List Nat) (txt : Nat → List Nat) (th : Int32) (x a b d : Int32) (H0 : Heap) (hMW : MW G y L txt th H0) : XM l yX3_triple wsX3_triple RMX3_triple G [.ref y, .int x, .int a, .int b, .int d] H0 y (y + 34) 3 122 (qI (fun r H1 => MR G y (rs2 (okN 8 x) (okN 1000000 a ∧ okN 1000000 b ∧ okN 1000000 d)) (r = ordr (dg (ix a) ++ [46] ++ dg (ix b) ++ [46] ++ dg (ix d)) (txt (ix x))) L L (up txt (ix x) (dg (ix a) ++ [46] ++ dg (ix b) ++ [46] ++ dg (ix d))) txt H1)) xN := by
  refine x_ofW (cc := cX3_triple) (maxL := 7) (ret := (some .int)) (by decide) rfl (Nat.le_of_ble_eq_true rfl) ?_
  intro p e s m below meth c hx hb hr hml hown hts hlocks hout hin2 h0 hE ls hl
  replace hown : s.vm.findClass RX3 = some m.cls := hown
  have hK := hE.1
  have hS : va_S (gA y (y + 34) H0.size) H0 H0 [] := va_S.rf
  generalize hargs : ([.ref y, .int x, .int a, .int b, .int d] : List Value).toArray = args at hts ⊢
  have hw0 := hts (.constant RX3 83 (999999)) (by decide +kernel)
  have hw1 := hts (.arrayClass .char) (by decide +kernel)
  have hl : lv_has ls 7 [(0, .ref y), (1, .int x), (2, .int a), (3, .int b), (4, .int d)] := hl
  obtain ⟨tad, w, hMT, hLA⟩ := hMW
  generalize hTe : H0.size = T at hMT
  obtain ⟨hO, hTd, ⟨f2, hf2, hf2b⟩, ⟨f11, hf11, hf11b⟩, htx, hLd, hyT, hTs⟩ := id hMT
  have hTd0 := hTd
  obtain ⟨fd, hD, hDf, hDn, hDc⟩ := hTd
  have hTe2 : T = H0.size := hTe.symm
  refine lv_aload_n hx hb dX3_triple_0 rfl (lv_at hl 0 rfl) ?_
  refine lv_iload_n hx hb dX3_triple_1 rfl (lv_at hl 1 rfl) ?_
  refine x_goI_ro (x_runS (As := [.int x]) (rest := [.ref y]) ⟨hx, hb, hml, hown, hts⟩ hE h0 hS (c_X3_isSlot l G x H0) (va_cwS 1 hts gX3_triple_X3_isSlot rfl rfl rfl (by decide +kernel) ⟨Nat.le_of_ble_eq_true rfl, Nat.le_of_ble_eq_true rfl⟩) (by omega) rfl rfl hl.1 rfl (lv_room (Nat.le_of_ble_eq_true rfl)) dX3_triple_2 ⟨by first | exact Nat.le_of_ble_eq_true rfl | omega, by first | exact Nat.le_of_ble_eq_true rfl | omega⟩) hS (by omega) (fun _ _ _ _ _ h => h.elim) (fun locs hq hS => ?_)
  rcases Bool.eq_false_or_eq_true (inB x (nI 0) (nI 7)) with hs | hs
  · refine x_rw (z := bI true) (congrArg bI hs) ?_
    refine lv_iconst (v := nI 1) hx hb dX3_triple_5 (by decide) ?_
    refine x_goI (x_runV (As := [.int (bI true), .int (nI 1)]) (rest := []) ⟨hx, hb, hml, hown, hts⟩ hE h0 hS (c_X3_no l G y (nI L.length) th true 1 H0 hO) (cwV 2 hts gX3_triple_X3_no rfl rfl rfl (by decide +kernel) ⟨Nat.le_of_ble_eq_true rfl, Nat.le_of_ble_eq_true rfl⟩) (gO.recv (C := RX3) hK hO rfl) (by omega) rfl rfl hl.1 rfl (lv_room (Nat.le_of_ble_eq_true rfl)) dX3_triple_6 ⟨by first | exact Nat.le_of_ble_eq_true rfl | omega, by first | exact Nat.le_of_ble_eq_true rfl | omega⟩) hS (by omega) (fun _ _ _ _ _ h => h.elim) (fun r3 H2 locs hq hF hS => ?_)
    have hf2 := hf2.fr hF (by omega)
    have hf11 := hf11.fr hF (by omega)
    have hD := hD.fr hF (by omega)
    have hLA := hLA.fr hF (by omega)
    obtain ⟨hr_, hOn⟩ := hq
    refine x_rw (z := bI false) hr_ ?_
    replace hOn : MO G y (nI L.length) 0 H2 := hOn
    have hMT := hMT.setO hF hOn
    have hO := hOn
    refine x_if_neB (tgt := 56) hx hb dX3_triple_9 (by decide) (fun c9 => ?_) (fun c9 => ?_)
    · exact absurd c9 (by decide)
    · obtain ⟨i, hi, rfl⟩ := (inB_okN (n := 7) (by decide)).mp hs
      refine lv_aload_n hx hb dX3_triple_12 rfl (lv_at hl 0 rfl) ?_
      refine lv_iload_n hx hb dX3_triple_13 rfl (lv_at hl 2 rfl) ?_
      refine lv_iconst (v := nI 0) hx hb dX3_triple_14 (by decide) ?_
      refine lv_ldc hx hb hown hw0 dX3_triple_15 ?_
      refine x_rw (z := nI 999999) (by decide) ?_
      refine x_goI_ro (x_runS (As := [.int a, .int (nI 0), .int (nI 999999)]) (rest := [.ref y]) ⟨hx, hb, hml, hown, hts⟩ hE h0 hS (c_X3_in l G a (nI 0) (nI 999999) H2) (va_cwS 3 hts gX3_triple_X3_in rfl rfl rfl (by decide +kernel) ⟨Nat.le_of_ble_eq_true rfl, Nat.le_of_ble_eq_true rfl⟩) (by omega) rfl rfl hl.1 rfl (lv_room (Nat.le_of_ble_eq_true rfl)) dX3_triple_17 ⟨by first | exact Nat.le_of_ble_eq_true rfl | omega, by first | exact Nat.le_of_ble_eq_true rfl | omega⟩) hS (by omega) (fun _ _ _ _ _ h => h.elim) (fun locs hq hS => ?_)
      refine x_if_eqB (tgt := 48) hx hb dX3_triple_20 (by decide) (fun c20 => ?_) (fun c20 => ?_)
      · refine lv_iconst (v := nI 0) hx hb dX3_triple_48 (by decide) ?_
        refine x_rw (z := bI false) (by decide) ?_
        refine lv_iconst (v := nI 2) hx hb dX3_triple_49 (by decide) ?_
        refine x_goI (x_runV (As := [.int (bI false), .int (nI 2)]) (rest := []) ⟨hx, hb, hml, hown, hts⟩ hE h0 hS (c_X3_no l G y (nI L.length) 0 false 2 H2 hO) (cwV 2 hts gX3_triple_X3_no rfl rfl rfl (by decide +kernel) ⟨Nat.le_of_ble_eq_true rfl, Nat.le_of_ble_eq_true rfl⟩) (gO.recv (C := RX3) hK hO rfl) (by omega) rfl rfl hl.1 rfl (lv_room (Nat.le_of_ble_eq_true rfl)) dX3_triple_50 ⟨by first | exact Nat.le_of_ble_eq_true rfl | omega, by first | exact Nat.le_of_ble_eq_true rfl | omega⟩) hS (by omega) (fun _ _ _ _ _ h => h.elim) (fun r6 H5 locs hq hF hS => ?_)
        have hf2 := hf2.fr hF (by omega)
        have hf11 := hf11.fr hF (by omega)
        have hD := hD.fr hF (by omega)
        have hLA := hLA.fr hF (by omega)
        obtain ⟨hr_, hOn⟩ := hq
        refine x_rw (z := bI true) hr_ ?_
        replace hOn : MO G y (nI L.length) (nI 2) H5 := hOn
        have hMT := hMT.setO hF hOn
        have hO := hOn
        refine x_if_eqB (tgt := 58) hx hb dX3_triple_53 (by decide) (fun c53 => ?_) (fun c53 => ?_)
        · exact absurd c53 (by decide)
        · refine lv_iconst (v := nI 0) hx hb dX3_triple_56 (by decide) ?_
          exact x_iret hx hb hr hlocks h0 hS (by omega) (by omega) dX3_triple_57 (MR.no n20 (rs2_2 ⟨i, hi, rfl⟩ (fun g => by first | exact inB_no c20 (inB_okN (n := 999999) (by decide)) g.1 | exact inB_no c30 (inB_okN (n := 999999) (by decide)) g.2.1 | exact inB_no c41 (inB_okN (n := 999999) (by decide)) g.2.2)) (hMT.W hLA))
      · refine lv_iload_n hx hb dX3_triple_23 rfl (lv_at hl 3 rfl) ?_
        refine lv_iconst (v := nI 0) hx hb dX3_triple_24 (by decide) ?_
        refine lv_ldc hx hb hown hw0 dX3_triple_25 ?_
        refine x_rw (z := nI 999999) (by decide) ?_
        refine x_goI_ro (x_runS (As := [.int b, .int (nI 0), .int (nI 999999)]) (rest := [.ref y]) ⟨hx, hb, hml, hown, hts⟩ hE h0 hS (c_X3_in l G b (nI 0) (nI 999999) H2) (va_cwS 3 hts gX3_triple_X3_in rfl rfl rfl (by decide +kernel) ⟨Nat.le_of_ble_eq_true rfl, Nat.le_of_ble_eq_true rfl⟩) (by omega) rfl rfl hl.1 rfl (lv_room (Nat.le_of_ble_eq_true rfl)) dX3_triple_27 ⟨by first | exact Nat.le_of_ble_eq_true rfl | omega, by first | exact Nat.le_of_ble_eq_true rfl | omega⟩) hS (by omega) (fun _ _ _ _ _ h => h.elim) (fun locs hq hS => ?_)
        refine x_if_eqB (tgt := 48) hx hb dX3_triple_30 (by decide) (fun c30 => ?_) (fun c30 => ?_)
        · refine lv_iconst (v := nI 0) hx hb dX3_triple_48 (by decide) ?_
          refine x_rw (z := bI false) (by decide) ?_
          refine lv_iconst (v := nI 2) hx hb dX3_triple_49 (by decide) ?_
          refine x_goI (x_runV (As := [.int (bI false), .int (nI 2)]) (rest := []) ⟨hx, hb, hml, hown, hts⟩ hE h0 hS (c_X3_no l G y (nI L.length) 0 false 2 H2 hO) (cwV 2 hts gX3_triple_X3_no rfl rfl rfl (by decide +kernel) ⟨Nat.le_of_ble_eq_true rfl, Nat.le_of_ble_eq_true rfl⟩) (gO.recv (C := RX3) hK hO rfl) (by omega) rfl rfl hl.1 rfl (lv_room (Nat.le_of_ble_eq_true rfl)) dX3_triple_50 ⟨by first | exact Nat.le_of_ble_eq_true rfl | omega, by first | exact Nat.le_of_ble_eq_true rfl | omega⟩) hS (by omega) (fun _ _ _ _ _ h => h.elim) (fun r9 H8 locs hq hF hS => ?_)
          have hf2 := hf2.fr hF (by omega)
          have hf11 := hf11.fr hF (by omega)
          have hD := hD.fr hF (by omega)
          have hLA := hLA.fr hF (by omega)
          obtain ⟨hr_, hOn⟩ := hq
          refine x_rw (z := bI true) hr_ ?_
          replace hOn : MO G y (nI L.length) (nI 2) H8 := hOn
          have hMT := hMT.setO hF hOn
          have hO := hOn
          refine x_if_eqB (tgt := 58) hx hb dX3_triple_53 (by decide) (fun c53 => ?_) (fun c53 => ?_)
          · exact absurd c53 (by decide)
          · refine lv_iconst (v := nI 0) hx hb dX3_triple_56 (by decide) ?_
            exact x_iret hx hb hr hlocks h0 hS (by omega) (by omega) dX3_triple_57 (MR.no n20 (rs2_2 ⟨i, hi, rfl⟩ (fun g => by first | exact inB_no c20 (inB_okN (n := 999999) (by decide)) g.1 | exact inB_no c30 (inB_okN (n := 999999) (by decide)) g.2.1 | exact inB_no c41 (inB_okN (n := 999999) (by decide)) g.2.2)) (hMT.W hLA))
        · refine lv_iload hx hb dX3_triple_33 (lv_at hl 4 rfl) ?_
          refine lv_iconst (v := nI 0) hx hb dX3_triple_35 (by decide) ?_
          refine lv_ldc hx hb hown hw0 dX3_triple_36 ?_
          refine x_rw (z := nI 999999) (by decide) ?_
          refine x_goI_ro (x_runS (As := [.int d, .int (nI 0), .int (nI 999999)]) (rest := [.ref y]) ⟨hx, hb, hml, hown, hts⟩ hE h0 hS (c_X3_in l G d (nI 0) (nI 999999) H2) (va_cwS 3 hts gX3_triple_X3_in rfl rfl rfl (by decide +kernel) ⟨Nat.le_of_ble_eq_true rfl, Nat.le_of_ble_eq_true rfl⟩) (by omega) rfl rfl hl.1 rfl (lv_room (Nat.le_of_ble_eq_true rfl)) dX3_triple_38 ⟨by first | exact Nat.le_of_ble_eq_true rfl | omega, by first | exact Nat.le_of_ble_eq_true rfl | omega⟩) hS (by omega) (fun _ _ _ _ _ h => h.elim) (fun locs hq hS => ?_)
          refine x_if_eqB (tgt := 48) hx hb dX3_triple_41 (by decide) (fun c41 => ?_) (fun c41 => ?_)
          · refine lv_iconst (v := nI 0) hx hb dX3_triple_48 (by decide) ?_
            refine x_rw (z := bI false) (by decide) ?_
            refine lv_iconst (v := nI 2) hx hb dX3_triple_49 (by decide) ?_
            refine x_goI (x_runV (As := [.int (bI false), .int (nI 2)]) (rest := []) ⟨hx, hb, hml, hown, hts⟩ hE h0 hS (c_X3_no l G y (nI L.length) 0 false 2 H2 hO) (cwV 2 hts gX3_triple_X3_no rfl rfl rfl (by decide +kernel) ⟨Nat.le_of_ble_eq_true rfl, Nat.le_of_ble_eq_true rfl⟩) (gO.recv (C := RX3) hK hO rfl) (by omega) rfl rfl hl.1 rfl (lv_room (Nat.le_of_ble_eq_true rfl)) dX3_triple_50 ⟨by first | exact Nat.le_of_ble_eq_true rfl | omega, by first | exact Nat.le_of_ble_eq_true rfl | omega⟩) hS (by omega) (fun _ _ _ _ _ h => h.elim) (fun r12 H11 locs hq hF hS => ?_)
            have hf2 := hf2.fr hF (by omega)
            have hf11 := hf11.fr hF (by omega)
            have hD := hD.fr hF (by omega)
            have hLA := hLA.fr hF (by omega)
            obtain ⟨hr_, hOn⟩ := hq
            refine x_rw (z := bI true) hr_ ?_
            replace hOn : MO G y (nI L.length) (nI 2) H11 := hOn
            have hMT := hMT.setO hF hOn
            have hO := hOn
            refine x_if_eqB (tgt := 58) hx hb dX3_triple_53 (by decide) (fun c53 => ?_) (fun c53 => ?_)
            · exact absurd c53 (by decide)
            · refine lv_iconst (v := nI 0) hx hb dX3_triple_56 (by decide) ?_
              exact x_iret hx hb hr hlocks h0 hS (by omega) (by omega) dX3_triple_57 (MR.no n20 (rs2_2 ⟨i, hi, rfl⟩ (fun g => by first | exact inB_no c20 (inB_okN (n := 999999) (by decide)) g.1 | exact inB_no c30 (inB_okN (n := 999999) (by decide)) g.2.1 | exact inB_no c41 (inB_okN (n := 999999) (by decide)) g.2.2)) (hMT.W hLA))
          · refine lv_iconst (v := nI 1) hx hb dX3_triple_44 (by decide) ?_
            refine lv_goto (tgt := 49) hx hb dX3_triple_45 (by decide) ?_
            refine x_rw (z := bI true) (by decide) ?_
            refine lv_iconst (v := nI 2) hx hb dX3_triple_49 (by decide) ?_
            refine x_goI (x_runV (As := [.int (bI true), .int (nI 2)]) (rest := []) ⟨hx, hb, hml, hown, hts⟩ hE h0 hS (c_X3_no l G y (nI L.length) 0 true 2 H2 hO) (cwV 2 hts gX3_triple_X3_no rfl rfl rfl (by decide +kernel) ⟨Nat.le_of_ble_eq_true rfl, Nat.le_of_ble_eq_true rfl⟩) (gO.recv (C := RX3) hK hO rfl) (by omega) rfl rfl hl.1 rfl (lv_room (Nat.le_of_ble_eq_true rfl)) dX3_triple_50 ⟨by first | exact Nat.le_of_ble_eq_true rfl | omega, by first | exact Nat.le_of_ble_eq_true rfl | omega⟩) hS (by omega) (fun _ _ _ _ _ h => h.elim) (fun r14 H13 locs hq hF hS => ?_)
            have hf2 := hf2.fr hF (by omega)
            have hf11 := hf11.fr hF (by omega)
            have hD := hD.fr hF (by omega)
            have hLA := hLA.fr hF (by omega)
            obtain ⟨hr_, hOn⟩ := hq
            refine x_rw (z := bI false) hr_ ?_
            replace hOn : MO G y (nI L.length) 0 H13 := hOn
            have hMT := hMT.setO hF hOn
            have hO := hOn
            refine x_if_eqB (tgt := 58) hx hb dX3_triple_53 (by decide) (fun c53 => ?_) (fun c53 => ?_)
            · obtain ⟨a1, ha1, rfl⟩ := (inB_okN (n := 999999) (by decide)).mp c20
              obtain ⟨b1, hb1, rfl⟩ := (inB_okN (n := 999999) (by decide)).mp c30
              obtain ⟨d1, hd1, rfl⟩ := (inB_okN (n := 999999) (by decide)).mp c41
              have gAa : Gt (dg a1) := Gt_begin (n := a1) (z := 0) (by omega) (by omega)
              have ea := dgs_le 5 a1 (by omega)
              have eb := dgs_le 5 b1 (by omega)
              have ed := dgs_le 5 d1 (by omega)
              obtain ⟨P1, hP1⟩ : ∃ P, P = dg a1 := ⟨_, rfl⟩
              obtain ⟨P2, hP2⟩ : ∃ P, P = P1 ++ [46] ++ dg b1 := ⟨_, rfl⟩
              obtain ⟨P3, hP3⟩ : ∃ P, P = P2 ++ [46] ++ dg d1 := ⟨_, rfl⟩
              rw [← hP1] at gAa
              have el1 : P1.length = dgs a1 := by rw [hP1]; rfl
              have el2 : P2.length = P1.length + 1 + dgs b1 := by rw [hP2, List.length_append, List.length_append, List.length_singleton]; rfl
              have el3 : P3.length = P2.length + 1 + dgs d1 := by rw [hP3, List.length_append, List.length_append, List.length_singleton]; rfl
              have gAB : Gt P2 := by rw [hP2]; exact Gt_dot gAa (by omega) (by omega)
              have gP : Gt P3 := by rw [hP3]; exact Gt_dot gAB (by omega) (by omega)
              refine lv_bipush (v := nI 60) hx hb dX3_triple_58 (by decide) ?_
              refine x_newC (n := 60) hx hb hK hS hw1 (by decide) (Nat.le_of_ble_eq_true rfl) (Nat.le_of_ble_eq_true rfl) dX3_triple_60 (fun zq H15 hze_zq hz0_zq hzq hF hz_zq hS => ?_)
              have hlt_hf2 := hf2.lt
              have hlt_hf11 := hf11.lt
              have hlt_hD := hD.lt
              have hlt_hO := hO.lt
              have hf2 := hf2.fr hF (by omega)
              have hf11 := hf11.fr hF (by omega)
              have hD := hD.fr hF (by omega)
              have hO := hO.fr hF (by omega)
              have hMT := hMT.fr hF (by omega)
              have hLA := hLA.fr hF (by omega)
              refine lv_astore (lv' := [(5, .ref zq), (0, .ref y), (1, .int (nI i)), (2, .int (nI a1)), (3, .int (nI b1)), (4, .int (nI d1))]) hx hb dX3_triple_62 hl (by decide) rfl (fun ls hl => ?_)
              refine lv_aload hx hb dX3_triple_64 (lv_at hl 0 rfl) ?_
              refine lv_iconst (v := nI 0) hx hb dX3_triple_66 (by decide) ?_
              refine lv_iload_n hx hb dX3_triple_67 rfl (lv_at hl 3 rfl) ?_
              refine lv_iconst (v := nI 0) hx hb dX3_triple_68 (by decide) ?_
              refine x_goI (x_runS (As := [.ref zq, .int (nI 0), .int (nI a1), .int (nI 0)]) (rest := []) ⟨hx, hb, hml, hown, hts⟩ hE h0 hS (c_X3_digits l G zq 0 a1 0 (fun _ => nI 0) (by omega) (by omega) (by omega) H15 hzq) (va_cwS 4 hts gX3_triple_X3_digits rfl rfl rfl (by decide +kernel) ⟨Nat.le_of_ble_eq_true rfl, Nat.le_of_ble_eq_true rfl⟩) (by omega) rfl rfl hl.1 rfl (lv_room (Nat.le_of_ble_eq_true rfl)) dX3_triple_69 ⟨by first | exact Nat.le_of_ble_eq_true rfl | omega, by first | exact Nat.le_of_ble_eq_true rfl | omega⟩) hS (by omega) (fun _ _ _ _ _ h => h.elim) (fun r17 H16 locs hq hF hS => ?_)
              have hf2 := hf2.fr hF (by omega)
              have hf11 := hf11.fr hF (by omega)
              have hD := hD.fr hF (by omega)
              have hO := hO.fr hF (by omega)
              have hMT := hMT.fr hF (by omega)
              have hLA := hLA.fr hF (by omega)
              obtain ⟨hr_, fa, hza, hka, hva⟩ := hq
              refine x_rw (z := nI P1.length) (by rw [hr_]; exact congrArg nI (by omega)) ?_
              have hxa : ∀ i, i < P1.length → fa i = nI (cg P1 i) := fun i h => by
                have h2 := hva i (by omega)
                rw [Nat.zero_add] at h2
                rw [hP1]
                exact h2
              refine lv_istore (lv' := [(6, .int (nI P1.length)), (5, .ref zq), (0, .ref y), (1, .int (nI i)), (2, .int (nI a1)), (3, .int (nI b1)), (4, .int (nI d1))]) hx hb dX3_triple_72 hl (by decide) rfl (fun ls hl => ?_)
              refine lv_aload hx hb dX3_triple_74 (lv_at hl 1 rfl) ?_
              refine lv_iload hx hb dX3_triple_76 (lv_at hl 0 rfl) ?_
              refine lv_bipush (v := nI 46) hx hb dX3_triple_78 (by decide) ?_
              refine x_cast hx hb hK hza (by omega) (by decide) (by omega) hS (by unfold gA; omega) dX3_triple_80 (fun H18 locs hza hF hz hS => ?_)
              have hf2 := hf2.fr hF (by omega)
              have hf11 := hf11.fr hF (by omega)
              have hD := hD.fr hF (by omega)
              have hO := hO.fr hF (by omega)
              have hMT := hMT.fr hF (by omega)
              have hLA := hLA.fr hF (by omega)
              refine lv_aload hx hb dX3_triple_81 (lv_at hl 1 rfl) ?_
              refine lv_iload hx hb dX3_triple_83 (lv_at hl 0 rfl) ?_
              refine lv_iconst (v := nI 1) hx hb dX3_triple_85 (by decide) ?_
              refine lv_iadd hx hb dX3_triple_86 ?_
              refine x_rw (z := nI (P1.length + 1)) (nI_add _ _) ?_
              refine lv_iload_n hx hb dX3_triple_87 rfl (lv_at hl 5 rfl) ?_
              refine lv_iconst (v := nI 0) hx hb dX3_triple_88 (by decide) ?_
              refine x_goI (x_runS (As := [.ref zq, .int (nI (P1.length + 1)), .int (nI b1), .int (nI 0)]) (rest := []) ⟨hx, hb, hml, hown, hts⟩ hE h0 hS (c_X3_digits l G zq (P1.length + 1) b1 0 (upd fa P1.length (nI 46)) (by omega) (by omega) (by omega) H18 hza) (va_cwS 4 hts gX3_triple_X3_digits rfl rfl rfl (by decide +kernel) ⟨Nat.le_of_ble_eq_true rfl, Nat.le_of_ble_eq_true rfl⟩) (by omega) rfl rfl hl.1 rfl (lv_room (Nat.le_of_ble_eq_true rfl)) dX3_triple_89 ⟨by first | exact Nat.le_of_ble_eq_true rfl | omega, by first | exact Nat.le_of_ble_eq_true rfl | omega⟩) hS (by omega) (fun _ _ _ _ _ h => h.elim) (fun r20 H19 locs hq hF hS => ?_)
              have hf2 := hf2.fr hF (by omega)
              have hf11 := hf11.fr hF (by omega)
              have hD := hD.fr hF (by omega)
              have hO := hO.fr hF (by omega)
              have hMT := hMT.fr hF (by omega)
              have hLA := hLA.fr hF (by omega)
              obtain ⟨hr_, fb, hzb, hkb, hvb⟩ := hq
              refine x_rw (z := nI P2.length) (by rw [hr_]; exact congrArg nI (by omega)) ?_
              have hxb : ∀ i, i < P2.length → fb i = nI (cg P2 i) := by rw [hP2]; exact ar_ext hxa hkb hvb
              refine lv_istore (lv' := [(6, .int (nI P2.length)), (5, .ref zq), (0, .ref y), (1, .int (nI i)), (2, .int (nI a1)), (3, .int (nI b1)), (4, .int (nI d1))]) hx hb dX3_triple_92 hl (by decide) rfl (fun ls hl => ?_)
              refine lv_aload hx hb dX3_triple_94 (lv_at hl 1 rfl) ?_
              refine lv_iload hx hb dX3_triple_96 (lv_at hl 0 rfl) ?_
              refine lv_bipush (v := nI 46) hx hb dX3_triple_98 (by decide) ?_
              refine x_cast hx hb hK hzb (by omega) (by decide) (by omega) hS (by unfold gA; omega) dX3_triple_100 (fun H21 locs hzb hF hz hS => ?_)
              have hf2 := hf2.fr hF (by omega)
              have hf11 := hf11.fr hF (by omega)
              have hD := hD.fr hF (by omega)
              have hO := hO.fr hF (by omega)
              have hMT := hMT.fr hF (by omega)
              have hLA := hLA.fr hF (by omega)
              refine lv_aload_n hx hb dX3_triple_101 rfl (lv_at hl 2 rfl) ?_
              refine lv_iload_n hx hb dX3_triple_102 rfl (lv_at hl 3 rfl) ?_
              refine lv_aload hx hb dX3_triple_103 (lv_at hl 1 rfl) ?_
              refine lv_aload hx hb dX3_triple_105 (lv_at hl 1 rfl) ?_
              refine lv_iload hx hb dX3_triple_107 (lv_at hl 0 rfl) ?_
              refine lv_iconst (v := nI 1) hx hb dX3_triple_109 (by decide) ?_
              refine lv_iadd hx hb dX3_triple_110 ?_
              refine x_rw (z := nI (P2.length + 1)) (nI_add _ _) ?_
              refine lv_iload hx hb dX3_triple_111 (lv_at hl 6 rfl) ?_
              refine lv_iconst (v := nI 0) hx hb dX3_triple_113 (by decide) ?_
              refine x_goI (x_runS (As := [.ref zq, .int (nI (P2.length + 1)), .int (nI d1), .int (nI 0)]) (rest := [.ref zq, .int (nI i), .ref y]) ⟨hx, hb, hml, hown, hts⟩ hE h0 hS (c_X3_digits l G zq (P2.length + 1) d1 0 (upd fb P2.length (nI 46)) (by omega) (by omega) (by omega) H21 hzb) (va_cwS 4 hts gX3_triple_X3_digits rfl rfl rfl (by decide +kernel) ⟨Nat.le_of_ble_eq_true rfl, Nat.le_of_ble_eq_true rfl⟩) (by omega) rfl rfl hl.1 rfl (lv_room (Nat.le_of_ble_eq_true rfl)) dX3_triple_114 ⟨by first | exact Nat.le_of_ble_eq_true rfl | omega, by first | exact Nat.le_of_ble_eq_true rfl | omega⟩) hS (by omega) (fun _ _ _ _ _ h => h.elim) (fun r23 H22 locs hq hF hS => ?_)
              have hf2 := hf2.fr hF (by omega)
              have hf11 := hf11.fr hF (by omega)
              have hD := hD.fr hF (by omega)
              have hO := hO.fr hF (by omega)
              have hMT := hMT.fr hF (by omega)
              have hLA := hLA.fr hF (by omega)
              obtain ⟨hr_, fd, hzd, hkd, hvd⟩ := hq
              refine x_rw (z := nI P3.length) (by rw [hr_]; exact congrArg nI (by omega)) ?_
              have hxd : ∀ i, i < P3.length → fd i = nI (cg P3 i) := by rw [hP3]; exact ar_ext hxb hkd hvd
              have hzT : TA G zq P3 H22 := TA_mk hzd hxd gP
              refine x_goI (x_runV (As := [.int (nI i), .ref zq, .int (nI P3.length)]) (rest := []) ⟨hx, hb, hml, hown, hts⟩ hE h0 hS (c_X3_lay l G y T L txt tad 0 w i (by omega) zq P3 gP (by omega) (by omega) H22 hMT hLA hzT) (cwV 3 hts gX3_triple_X3_lay rfl rfl rfl (by decide +kernel) ⟨Nat.le_of_ble_eq_true rfl, Nat.le_of_ble_eq_true rfl⟩) (gO.recv (C := RX3) hK hO rfl) (by omega) rfl rfl hl.1 rfl (lv_room (Nat.le_of_ble_eq_true rfl)) dX3_triple_117 ⟨by first | exact Nat.le_of_ble_eq_true rfl | omega, by first | exact Nat.le_of_ble_eq_true rfl | omega⟩) hS (by omega) (fun _ _ _ _ _ h => h.elim) (fun r25 H24 locs hq hF hS => ?_)
              obtain ⟨rfl, hMW2⟩ := hq
              exact x_iret hx hb hr hlocks h0 hS (by omega) (by omega) dX3_triple_120 (MR.ok (rs2_y ⟨i, hi, rfl⟩ ⟨⟨a1, ha1, rfl⟩, ⟨b1, hb1, rfl⟩, d1, hd1, rfl⟩) (by rw [ix_N (by omega), ix_N (by omega), ix_N (by omega), ix_N (by omega), hP3, hP2, hP1]) (by rw [ix_N (by omega), ix_N (by omega), ix_N (by omega), ix_N (by omega), ← hP1, ← hP2, ← hP3]; exact hMW2))
            · exact absurd c53 (by decide)
  · refine x_rw (z := bI false) (congrArg bI hs) ?_
    refine lv_iconst (v := nI 1) hx hb dX3_triple_5 (by decide) ?_
    refine x_goI (x_runV (As := [.int (bI false), .int (nI 1)]) (rest := []) ⟨hx, hb, hml, hown, hts⟩ hE h0 hS (c_X3_no l G y (nI L.length) th false 1 H0 hO) (cwV 2 hts gX3_triple_X3_no rfl rfl rfl (by decide +kernel) ⟨Nat.le_of_ble_eq_true rfl, Nat.le_of_ble_eq_true rfl⟩) (gO.recv (C := RX3) hK hO rfl) (by omega) rfl rfl hl.1 rfl (lv_room (Nat.le_of_ble_eq_true rfl)) dX3_triple_6 ⟨by first | exact Nat.le_of_ble_eq_true rfl | omega, by first | exact Nat.le_of_ble_eq_true rfl | omega⟩) hS (by omega) (fun _ _ _ _ _ h => h.elim) (fun r27 H26 locs hq hF hS => ?_)
    have hf2 := hf2.fr hF (by omega)
    have hf11 := hf11.fr hF (by omega)
    have hD := hD.fr hF (by omega)
    have hLA := hLA.fr hF (by omega)
    obtain ⟨hr_, hOn⟩ := hq
    refine x_rw (z := bI true) hr_ ?_
    replace hOn : MO G y (nI L.length) (nI 1) H26 := hOn
    have hMT := hMT.setO hF hOn
    have hO := hOn
    refine x_if_neB (tgt := 56) hx hb dX3_triple_9 (by decide) (fun c9 => ?_) (fun c9 => ?_)
    · refine lv_iconst (v := nI 0) hx hb dX3_triple_56 (by decide) ?_
      exact x_iret hx hb hr hlocks h0 hS (by omega) (by omega) dX3_triple_57 (MR.no n10 (rs2_1 (fun g => inB_no hs (inB_okN (n := 7) (by decide)) g)) (hMT.W hLA))
    · exact absurd c9 (by decide)

abbrev RMX3_copy : Room := { frames := 6, cells := 2, slots := 62, locals := 128 }
set_option maxHeartbeats 4000000 in
set_option maxRecDepth 100000 in
theorem c_X3_copy (l : Launch) (G : gG) (y : Nat) (L : List Nat) (txt : Nat → List Nat) (th : Int32) (x z : Int32) (H0 : Heap) (hMW : MW G y L txt th H0) : XM l yX3_copy wsX3_copy RMX3_copy G [.ref y, .int x, .int z] H0 y (y + 34) 2 62 (qI (fun r H1 => MR G y (rs1 (okN 8 x ∧ okN 8 z)) (r = ordr (txt (ix x)) (txt (ix z))) L L (up txt (ix z) (txt (ix x))) txt H1)) xN := by
  refine x_ofW (cc := cX3_copy) (maxL := 3) (ret := (some .int)) (by decide) rfl (Nat.le_of_ble_eq_true rfl) ?_
  intro p e s m below meth c hx hb hr hml hown hts hlocks hout hin2 h0 hE ls hl
  replace hown : s.vm.findClass RX3 = some m.cls := hown
  have hK := hE.1
  have hS : va_S (gA y (y + 34) H0.size) H0 H0 [] := va_S.rf
  generalize hargs : ([.ref y, .int x, .int z] : List Value).toArray = args at hts ⊢
  have hw0 := hts (.fieldLink RX3 15 "ReleaseledgerModel" "texts" "[[C") (by decide +kernel)
  have hw1 : ∀ w ∈ u_ws RX3 TX3 9, w ∈ wsX3_copy := by decide +kernel
  have hw2 := hts (.fieldLink RX3 18 "ReleaseledgerModel" "sizes" "[I") (by decide +kernel)
  have hl : lv_has ls 3 [(0, .ref y), (1, .int x), (2, .int z)] := hl
  obtain ⟨tad, w, hMT, hLA⟩ := hMW
  generalize hTe : H0.size = T at hMT
  obtain ⟨hO, hTd, ⟨f2, hf2, hf2b⟩, ⟨f11, hf11, hf11b⟩, htx, hLd, hyT, hTs⟩ := id hMT
  have hTd0 := hTd
  obtain ⟨fd, hD, hDf, hDn, hDc⟩ := hTd
  have hTe2 : T = H0.size := hTe.symm
  refine lv_aload_n hx hb dX3_copy_0 rfl (lv_at hl 0 rfl) ?_
  refine lv_iload_n hx hb dX3_copy_1 rfl (lv_at hl 1 rfl) ?_
  refine x_goI_ro (x_runS (As := [.int x]) (rest := [.ref y]) ⟨hx, hb, hml, hown, hts⟩ hE h0 hS (c_X3_isSlot l G x H0) (va_cwS 1 hts gX3_copy_X3_isSlot rfl rfl rfl (by decide +kernel) ⟨Nat.le_of_ble_eq_true rfl, Nat.le_of_ble_eq_true rfl⟩) (by omega) rfl rfl hl.1 rfl (lv_room (Nat.le_of_ble_eq_true rfl)) dX3_copy_2 ⟨by first | exact Nat.le_of_ble_eq_true rfl | omega, by first | exact Nat.le_of_ble_eq_true rfl | omega⟩) hS (by omega) (fun _ _ _ _ _ h => h.elim) (fun locs hq hS => ?_)
  refine x_if_eqB (tgt := 19) hx hb dX3_copy_5 (by decide) (fun c5 => ?_) (fun c5 => ?_)
  · refine lv_iconst (v := nI 0) hx hb dX3_copy_19 (by decide) ?_
    refine x_rw (z := bI false) (by decide) ?_
    refine lv_iconst (v := nI 1) hx hb dX3_copy_20 (by decide) ?_
    refine x_goI (x_runV (As := [.int (bI false), .int (nI 1)]) (rest := []) ⟨hx, hb, hml, hown, hts⟩ hE h0 hS (c_X3_no l G y (nI L.length) th false 1 H0 hO) (cwV 2 hts gX3_copy_X3_no rfl rfl rfl (by decide +kernel) ⟨Nat.le_of_ble_eq_true rfl, Nat.le_of_ble_eq_true rfl⟩) (gO.recv (C := RX3) hK hO rfl) (by omega) rfl rfl hl.1 rfl (lv_room (Nat.le_of_ble_eq_true rfl)) dX3_copy_21 ⟨by first | exact Nat.le_of_ble_eq_true rfl | omega, by first | exact Nat.le_of_ble_eq_true rfl | omega⟩) hS (by omega) (fun _ _ _ _ _ h => h.elim) (fun r3 H2 locs hq hF hS => ?_)
    have hf2 := hf2.fr hF (by omega)
    have hf11 := hf11.fr hF (by omega)
    have hD := hD.fr hF (by omega)
    have hLA := hLA.fr hF (by omega)
    obtain ⟨hr_, hOn⟩ := hq
    refine x_rw (z := bI true) hr_ ?_
    replace hOn : MO G y (nI L.length) (nI 1) H2 := hOn
    have hMT := hMT.setO hF hOn
    have hO := hOn
    refine x_if_eqB (tgt := 31) hx hb dX3_copy_24 (by decide) (fun c24 => ?_) (fun c24 => ?_)
    · exact absurd c24 (by decide)
    · refine lv_iconst (v := nI 0) hx hb dX3_copy_27 (by decide) ?_
      refine lv_goto (tgt := 48) hx hb dX3_copy_28 (by decide) ?_
      exact x_iret hx hb hr hlocks h0 hS (by omega) (by omega) dX3_copy_48 (MR.no n10 (rs1_1 (inB_two (n := 7) (by decide) (by first | exact Or.inl c5 | exact Or.inr c12))) (hMT.W hLA))
  · refine lv_iload_n hx hb dX3_copy_8 rfl (lv_at hl 2 rfl) ?_
    refine x_goI_ro (x_runS (As := [.int z]) (rest := [.ref y]) ⟨hx, hb, hml, hown, hts⟩ hE h0 hS (c_X3_isSlot l G z H0) (va_cwS 1 hts gX3_copy_X3_isSlot rfl rfl rfl (by decide +kernel) ⟨Nat.le_of_ble_eq_true rfl, Nat.le_of_ble_eq_true rfl⟩) (by omega) rfl rfl hl.1 rfl (lv_room (Nat.le_of_ble_eq_true rfl)) dX3_copy_9 ⟨by first | exact Nat.le_of_ble_eq_true rfl | omega, by first | exact Nat.le_of_ble_eq_true rfl | omega⟩) hS (by omega) (fun _ _ _ _ _ h => h.elim) (fun locs hq hS => ?_)
    refine x_if_eqB (tgt := 19) hx hb dX3_copy_12 (by decide) (fun c12 => ?_) (fun c12 => ?_)
    · refine lv_iconst (v := nI 0) hx hb dX3_copy_19 (by decide) ?_
      refine x_rw (z := bI false) (by decide) ?_
      refine lv_iconst (v := nI 1) hx hb dX3_copy_20 (by decide) ?_
      refine x_goI (x_runV (As := [.int (bI false), .int (nI 1)]) (rest := []) ⟨hx, hb, hml, hown, hts⟩ hE h0 hS (c_X3_no l G y (nI L.length) th false 1 H0 hO) (cwV 2 hts gX3_copy_X3_no rfl rfl rfl (by decide +kernel) ⟨Nat.le_of_ble_eq_true rfl, Nat.le_of_ble_eq_true rfl⟩) (gO.recv (C := RX3) hK hO rfl) (by omega) rfl rfl hl.1 rfl (lv_room (Nat.le_of_ble_eq_true rfl)) dX3_copy_21 ⟨by first | exact Nat.le_of_ble_eq_true rfl | omega, by first | exact Nat.le_of_ble_eq_true rfl | omega⟩) hS (by omega) (fun _ _ _ _ _ h => h.elim) (fun r6 H5 locs hq hF hS => ?_)
      have hf2 := hf2.fr hF (by omega)
      have hf11 := hf11.fr hF (by omega)
      have hD := hD.fr hF (by omega)
      have hLA := hLA.fr hF (by omega)
      obtain ⟨hr_, hOn⟩ := hq
      refine x_rw (z := bI true) hr_ ?_
      replace hOn : MO G y (nI L.length) (nI 1) H5 := hOn
      have hMT := hMT.setO hF hOn
      have hO := hOn
      refine x_if_eqB (tgt := 31) hx hb dX3_copy_24 (by decide) (fun c24 => ?_) (fun c24 => ?_)
      · exact absurd c24 (by decide)
      · refine lv_iconst (v := nI 0) hx hb dX3_copy_27 (by decide) ?_
        refine lv_goto (tgt := 48) hx hb dX3_copy_28 (by decide) ?_
        exact x_iret hx hb hr hlocks h0 hS (by omega) (by omega) dX3_copy_48 (MR.no n10 (rs1_1 (inB_two (n := 7) (by decide) (by first | exact Or.inl c5 | exact Or.inr c12))) (hMT.W hLA))
    · refine lv_iconst (v := nI 1) hx hb dX3_copy_15 (by decide) ?_
      refine lv_goto (tgt := 20) hx hb dX3_copy_16 (by decide) ?_
      refine x_rw (z := bI true) (by decide) ?_
      refine lv_iconst (v := nI 1) hx hb dX3_copy_20 (by decide) ?_
      refine x_goI (x_runV (As := [.int (bI true), .int (nI 1)]) (rest := []) ⟨hx, hb, hml, hown, hts⟩ hE h0 hS (c_X3_no l G y (nI L.length) th true 1 H0 hO) (cwV 2 hts gX3_copy_X3_no rfl rfl rfl (by decide +kernel) ⟨Nat.le_of_ble_eq_true rfl, Nat.le_of_ble_eq_true rfl⟩) (gO.recv (C := RX3) hK hO rfl) (by omega) rfl rfl hl.1 rfl (lv_room (Nat.le_of_ble_eq_true rfl)) dX3_copy_21 ⟨by first | exact Nat.le_of_ble_eq_true rfl | omega, by first | exact Nat.le_of_ble_eq_true rfl | omega⟩) hS (by omega) (fun _ _ _ _ _ h => h.elim) (fun r8 H7 locs hq hF hS => ?_)
      have hf2 := hf2.fr hF (by omega)
      have hf11 := hf11.fr hF (by omega)
      have hD := hD.fr hF (by omega)
      have hLA := hLA.fr hF (by omega)
      obtain ⟨hr_, hOn⟩ := hq
      refine x_rw (z := bI false) hr_ ?_
      replace hOn : MO G y (nI L.length) 0 H7 := hOn
      have hMT := hMT.setO hF hOn
      have hO := hOn
      refine x_if_eqB (tgt := 31) hx hb dX3_copy_24 (by decide) (fun c24 => ?_) (fun c24 => ?_)
      · obtain ⟨i, hi, rfl⟩ := (inB_okN (n := 7) (by decide)).mp c5
        obtain ⟨j, hj, rfl⟩ := (inB_okN (n := 7) (by decide)).mp c12
        have hrg := hMT.rg (i := i) (by omega)
        have hgi := hMT.gt (i := i) (by omega)
        refine lv_aload_n hx hb dX3_copy_31 rfl (lv_at hl 0 rfl) ?_
        refine lv_iload_n hx hb dX3_copy_32 rfl (lv_at hl 2 rfl) ?_
        refine lv_aload_n hx hb dX3_copy_33 rfl (lv_at hl 0 rfl) ?_
        refine x_get (ci := 3) hx hb hts hown hK rfl hw1 2 (by decide) hw0 hO rfl dX3_copy_34 ?_
        refine lv_iload_n hx hb dX3_copy_37 rfl (lv_at hl 1 rfl) ?_
        refine x_aald (k := 4) (v := (tad i)) hx hb hK (by decide) rfl hf2 (by omega) (by decide) (hf2b _ (by omega)) dX3_copy_38 ?_
        refine lv_aload_n hx hb dX3_copy_39 rfl (lv_at hl 0 rfl) ?_
        refine x_get (ci := 3) hx hb hts hown hK rfl hw1 3 (by decide) hw2 hO rfl dX3_copy_40 ?_
        refine lv_iload_n hx hb dX3_copy_43 rfl (lv_at hl 1 rfl) ?_
        refine x_iald hx hb hK hf11 (by omega) (by decide) dX3_copy_44 ?_
        refine x_rw (z := (nI ((txt i).length))) (hf11b _ (by omega)) ?_
        have hTi := hMT.tx (i := i) (by omega)
        refine x_goI (x_runV (As := [.int (nI j), .ref (tad i), .int (nI ((txt i).length))]) (rest := []) ⟨hx, hb, hml, hown, hts⟩ hE h0 hS (c_X3_lay l G y T L txt tad 0 w j (by omega) (tad i) (txt i) hgi (by omega) (by omega) H7 hMT hLA hTi) (cwV 3 hts gX3_copy_X3_lay rfl rfl rfl (by decide +kernel) ⟨Nat.le_of_ble_eq_true rfl, Nat.le_of_ble_eq_true rfl⟩) (gO.recv (C := RX3) hK hO rfl) (by omega) rfl rfl hl.1 rfl (lv_room (Nat.le_of_ble_eq_true rfl)) dX3_copy_45 ⟨by first | exact Nat.le_of_ble_eq_true rfl | omega, by first | exact Nat.le_of_ble_eq_true rfl | omega⟩) hS (by omega) (fun _ _ _ _ _ h => h.elim) (fun r10 H9 locs hq hF hS => ?_)
        obtain ⟨rfl, hMW2⟩ := hq
        exact x_iret hx hb hr hlocks h0 hS (by omega) (by omega) dX3_copy_48 (MR.ok (rs1_y ⟨⟨i, hi, rfl⟩, j, hj, rfl⟩) (by rw [ix_N (by omega), ix_N (by omega)]) (by rw [ix_N (by omega), ix_N (by omega)]; exact hMW2))
      · exact absurd c24 (by decide)

abbrev RMX3_size : Room := { frames := 3, cells := 0, slots := 0, locals := 54 }
set_option maxHeartbeats 4000000 in
set_option maxRecDepth 100000 in
theorem c_X3_size (l : Launch) (G : gG) (y : Nat) (L : List Nat) (txt : Nat → List Nat) (th : Int32) (x : Int32) (H0 : Heap) (hMW : MW G y L txt th H0) : XM l yX3_size wsX3_size RMX3_size G [.ref y, .int x] H0 y (y + 34) 0 0 (qI (fun r H1 => MR G y (rs1 (okN 8 x)) (r = nI (txt (ix x)).length) L L txt txt H1)) xN := by
  refine x_ofW (cc := cX3_size) (maxL := 2) (ret := (some .int)) (by decide) rfl (Nat.le_of_ble_eq_true rfl) ?_
  intro p e s m below meth c hx hb hr hml hown hts hlocks hout hin2 h0 hE ls hl
  replace hown : s.vm.findClass RX3 = some m.cls := hown
  have hK := hE.1
  have hS : va_S (gA y (y + 34) H0.size) H0 H0 [] := va_S.rf
  generalize hargs : ([.ref y, .int x] : List Value).toArray = args at hts ⊢
  have hw0 := hts (.fieldLink RX3 18 "ReleaseledgerModel" "sizes" "[I") (by decide +kernel)
  have hw1 : ∀ w ∈ u_ws RX3 TX3 9, w ∈ wsX3_size := by decide +kernel
  have hl : lv_has ls 2 [(0, .ref y), (1, .int x)] := hl
  obtain ⟨tad, w, hMT, hLA⟩ := hMW
  generalize hTe : H0.size = T at hMT
  obtain ⟨hO, hTd, ⟨f2, hf2, hf2b⟩, ⟨f11, hf11, hf11b⟩, htx, hLd, hyT, hTs⟩ := id hMT
  have hTd0 := hTd
  obtain ⟨fd, hD, hDf, hDn, hDc⟩ := hTd
  have hTe2 : T = H0.size := hTe.symm
  refine lv_aload_n hx hb dX3_size_0 rfl (lv_at hl 0 rfl) ?_
  refine lv_iload_n hx hb dX3_size_1 rfl (lv_at hl 1 rfl) ?_
  refine x_goI_ro (x_runS (As := [.int x]) (rest := [.ref y]) ⟨hx, hb, hml, hown, hts⟩ hE h0 hS (c_X3_isSlot l G x H0) (va_cwS 1 hts gX3_size_X3_isSlot rfl rfl rfl (by decide +kernel) ⟨Nat.le_of_ble_eq_true rfl, Nat.le_of_ble_eq_true rfl⟩) (by omega) rfl rfl hl.1 rfl (lv_room (Nat.le_of_ble_eq_true rfl)) dX3_size_2 ⟨by first | exact Nat.le_of_ble_eq_true rfl | omega, by first | exact Nat.le_of_ble_eq_true rfl | omega⟩) hS (by omega) (fun _ _ _ _ _ h => h.elim) (fun locs hq hS => ?_)
  rcases Bool.eq_false_or_eq_true (inB x (nI 0) (nI 7)) with hs | hs
  · refine x_rw (z := bI true) (congrArg bI hs) ?_
    refine lv_iconst (v := nI 1) hx hb dX3_size_5 (by decide) ?_
    refine x_goI (x_runV (As := [.int (bI true), .int (nI 1)]) (rest := []) ⟨hx, hb, hml, hown, hts⟩ hE h0 hS (c_X3_no l G y (nI L.length) th true 1 H0 hO) (cwV 2 hts gX3_size_X3_no rfl rfl rfl (by decide +kernel) ⟨Nat.le_of_ble_eq_true rfl, Nat.le_of_ble_eq_true rfl⟩) (gO.recv (C := RX3) hK hO rfl) (by omega) rfl rfl hl.1 rfl (lv_room (Nat.le_of_ble_eq_true rfl)) dX3_size_6 ⟨by first | exact Nat.le_of_ble_eq_true rfl | omega, by first | exact Nat.le_of_ble_eq_true rfl | omega⟩) hS (by omega) (fun _ _ _ _ _ h => h.elim) (fun r3 H2 locs hq hF hS => ?_)
    have hf2 := hf2.fr hF (by omega)
    have hf11 := hf11.fr hF (by omega)
    have hD := hD.fr hF (by omega)
    have hLA := hLA.fr hF (by omega)
    obtain ⟨hr_, hOn⟩ := hq
    refine x_rw (z := bI false) hr_ ?_
    replace hOn : MO G y (nI L.length) 0 H2 := hOn
    have hMT := hMT.setO hF hOn
    have hO := hOn
    refine x_if_eqB (tgt := 16) hx hb dX3_size_9 (by decide) (fun c9 => ?_) (fun c9 => ?_)
    · obtain ⟨i, hi, rfl⟩ := (inB_okN (n := 7) (by decide)).mp hs
      refine lv_aload_n hx hb dX3_size_16 rfl (lv_at hl 0 rfl) ?_
      refine x_get (ci := 3) hx hb hts hown hK rfl hw1 3 (by decide) hw0 hO rfl dX3_size_17 ?_
      refine lv_iload_n hx hb dX3_size_20 rfl (lv_at hl 1 rfl) ?_
      refine x_iald hx hb hK hf11 (by omega) (by decide) dX3_size_21 ?_
      refine x_rw (z := (nI ((txt i).length))) (hf11b _ (by omega)) ?_
      exact x_iret hx hb hr hlocks h0 hS (by omega) (by omega) dX3_size_22 (MR.ok (rs1_y ⟨i, hi, rfl⟩) (by rw [ix_N (by omega)]) (hMT.W hLA))
    · exact absurd c9 (by decide)
  · refine x_rw (z := bI false) (congrArg bI hs) ?_
    refine lv_iconst (v := nI 1) hx hb dX3_size_5 (by decide) ?_
    refine x_goI (x_runV (As := [.int (bI false), .int (nI 1)]) (rest := []) ⟨hx, hb, hml, hown, hts⟩ hE h0 hS (c_X3_no l G y (nI L.length) th false 1 H0 hO) (cwV 2 hts gX3_size_X3_no rfl rfl rfl (by decide +kernel) ⟨Nat.le_of_ble_eq_true rfl, Nat.le_of_ble_eq_true rfl⟩) (gO.recv (C := RX3) hK hO rfl) (by omega) rfl rfl hl.1 rfl (lv_room (Nat.le_of_ble_eq_true rfl)) dX3_size_6 ⟨by first | exact Nat.le_of_ble_eq_true rfl | omega, by first | exact Nat.le_of_ble_eq_true rfl | omega⟩) hS (by omega) (fun _ _ _ _ _ h => h.elim) (fun r5 H4 locs hq hF hS => ?_)
    have hf2 := hf2.fr hF (by omega)
    have hf11 := hf11.fr hF (by omega)
    have hD := hD.fr hF (by omega)
    have hLA := hLA.fr hF (by omega)
    obtain ⟨hr_, hOn⟩ := hq
    refine x_rw (z := bI true) hr_ ?_
    replace hOn : MO G y (nI L.length) (nI 1) H4 := hOn
    have hMT := hMT.setO hF hOn
    have hO := hOn
    refine x_if_eqB (tgt := 16) hx hb dX3_size_9 (by decide) (fun c9 => ?_) (fun c9 => ?_)
    · exact absurd c9 (by decide)
    · refine lv_iconst (v := nI 0) hx hb dX3_size_12 (by decide) ?_
      refine lv_goto (tgt := 22) hx hb dX3_size_13 (by decide) ?_
      exact x_iret hx hb hr hlocks h0 hS (by omega) (by omega) dX3_size_22 (MR.no n10 (rs1_1 (fun g => inB_no hs (inB_okN (n := 7) (by decide)) g)) (hMT.W hLA))

abbrev RMX3_text : Room := { frames := 3, cells := 0, slots := 0, locals := 54 }
set_option maxHeartbeats 4000000 in
set_option maxRecDepth 100000 in
theorem c_X3_text (l : Launch) (G : gG) (y : Nat) (L : List Nat) (txt : Nat → List Nat) (th : Int32) (x z : Int32) (H0 : Heap) (hMW : MW G y L txt th H0) : XM l yX3_text wsX3_text RMX3_text G [.ref y, .int x, .int z] H0 y (y + 34) 0 0 (qI (fun r H1 => MR G y (rs1 (okN 8 x ∧ okN (txt (ix x)).length z)) (r = nI (cg (txt (ix x)) (ix z))) L L txt txt H1)) xN := by
  refine x_ofW (cc := cX3_text) (maxL := 3) (ret := (some .char)) (by decide) rfl (Nat.le_of_ble_eq_true rfl) ?_
  intro p e s m below meth c hx hb hr hml hown hts hlocks hout hin2 h0 hE ls hl
  replace hown : s.vm.findClass RX3 = some m.cls := hown
  have hK := hE.1
  have hS : va_S (gA y (y + 34) H0.size) H0 H0 [] := va_S.rf
  generalize hargs : ([.ref y, .int x, .int z] : List Value).toArray = args at hts ⊢
  have hw0 := hts (.fieldLink RX3 18 "ReleaseledgerModel" "sizes" "[I") (by decide +kernel)
  have hw1 : ∀ w ∈ u_ws RX3 TX3 9, w ∈ wsX3_text := by decide +kernel
  have hw2 := hts (.fieldLink RX3 15 "ReleaseledgerModel" "texts" "[[C") (by decide +kernel)
  have hl : lv_has ls 3 [(0, .ref y), (1, .int x), (2, .int z)] := hl
  obtain ⟨tad, w, hMT, hLA⟩ := hMW
  generalize hTe : H0.size = T at hMT
  obtain ⟨hO, hTd, ⟨f2, hf2, hf2b⟩, ⟨f11, hf11, hf11b⟩, htx, hLd, hyT, hTs⟩ := id hMT
  have hTd0 := hTd
  obtain ⟨fd, hD, hDf, hDn, hDc⟩ := hTd
  have hTe2 : T = H0.size := hTe.symm
  refine lv_aload_n hx hb dX3_text_0 rfl (lv_at hl 0 rfl) ?_
  refine lv_iload_n hx hb dX3_text_1 rfl (lv_at hl 1 rfl) ?_
  refine x_goI_ro (x_runS (As := [.int x]) (rest := [.ref y]) ⟨hx, hb, hml, hown, hts⟩ hE h0 hS (c_X3_isSlot l G x H0) (va_cwS 1 hts gX3_text_X3_isSlot rfl rfl rfl (by decide +kernel) ⟨Nat.le_of_ble_eq_true rfl, Nat.le_of_ble_eq_true rfl⟩) (by omega) rfl rfl hl.1 rfl (lv_room (Nat.le_of_ble_eq_true rfl)) dX3_text_2 ⟨by first | exact Nat.le_of_ble_eq_true rfl | omega, by first | exact Nat.le_of_ble_eq_true rfl | omega⟩) hS (by omega) (fun _ _ _ _ _ h => h.elim) (fun locs hq hS => ?_)
  refine x_if_eqB (tgt := 28) hx hb dX3_text_5 (by decide) (fun c5 => ?_) (fun c5 => ?_)
  · refine lv_iconst (v := nI 0) hx hb dX3_text_28 (by decide) ?_
    refine x_rw (z := bI false) (by decide) ?_
    refine lv_iconst (v := nI 1) hx hb dX3_text_29 (by decide) ?_
    refine x_goI (x_runV (As := [.int (bI false), .int (nI 1)]) (rest := []) ⟨hx, hb, hml, hown, hts⟩ hE h0 hS (c_X3_no l G y (nI L.length) th false 1 H0 hO) (cwV 2 hts gX3_text_X3_no rfl rfl rfl (by decide +kernel) ⟨Nat.le_of_ble_eq_true rfl, Nat.le_of_ble_eq_true rfl⟩) (gO.recv (C := RX3) hK hO rfl) (by omega) rfl rfl hl.1 rfl (lv_room (Nat.le_of_ble_eq_true rfl)) dX3_text_30 ⟨by first | exact Nat.le_of_ble_eq_true rfl | omega, by first | exact Nat.le_of_ble_eq_true rfl | omega⟩) hS (by omega) (fun _ _ _ _ _ h => h.elim) (fun r3 H2 locs hq hF hS => ?_)
    have hf2 := hf2.fr hF (by omega)
    have hf11 := hf11.fr hF (by omega)
    have hD := hD.fr hF (by omega)
    have hLA := hLA.fr hF (by omega)
    obtain ⟨hr_, hOn⟩ := hq
    refine x_rw (z := bI true) hr_ ?_
    replace hOn : MO G y (nI L.length) (nI 1) H2 := hOn
    have hMT := hMT.setO hF hOn
    have hO := hOn
    refine x_if_eqB (tgt := 41) hx hb dX3_text_33 (by decide) (fun c33 => ?_) (fun c33 => ?_)
    · exact absurd c33 (by decide)
    · refine lv_bipush (v := nI 32) hx hb dX3_text_36 (by decide) ?_
      refine lv_goto (tgt := 49) hx hb dX3_text_38 (by decide) ?_
      exact x_zret hx hb hr hlocks h0 hS (by omega) (by omega) dX3_text_49 (x_charN (by omega)) (MR.no n10 (rs1_1 (fun g => by first | exact inB_no c5 (inB_okN (n := 7) (by decide)) g.1 | (have g2 := g.2; rw [ix_N (by omega)] at g2; exact inB_no c21 (inB_okS (by omega)) g2))) (hMT.W hLA))
  · obtain ⟨i, hi, rfl⟩ := (inB_okN (n := 7) (by decide)).mp c5
    have hle_i := (hMT.gt (i := i) (by omega)).le
    refine lv_iload_n hx hb dX3_text_8 rfl (lv_at hl 2 rfl) ?_
    refine lv_iconst (v := nI 0) hx hb dX3_text_9 (by decide) ?_
    refine lv_aload_n hx hb dX3_text_10 rfl (lv_at hl 0 rfl) ?_
    refine x_get (ci := 3) hx hb hts hown hK rfl hw1 3 (by decide) hw0 hO rfl dX3_text_11 ?_
    refine lv_iload_n hx hb dX3_text_14 rfl (lv_at hl 1 rfl) ?_
    refine x_iald hx hb hK hf11 (by omega) (by decide) dX3_text_15 ?_
    refine x_rw (z := (nI ((txt i).length))) (hf11b _ (by omega)) ?_
    refine lv_iconst (v := nI 1) hx hb dX3_text_16 (by decide) ?_
    refine lv_isub hx hb dX3_text_17 ?_
    refine x_rw (z := (nI (txt i).length - nI 1)) rfl ?_
    refine x_goI_ro (x_runS (As := [.int z, .int (nI 0), .int (nI (txt i).length - nI 1)]) (rest := [.ref y]) ⟨hx, hb, hml, hown, hts⟩ hE h0 hS (c_X3_in l G z (nI 0) (nI (txt i).length - nI 1) H0) (va_cwS 3 hts gX3_text_X3_in rfl rfl rfl (by decide +kernel) ⟨Nat.le_of_ble_eq_true rfl, Nat.le_of_ble_eq_true rfl⟩) (by omega) rfl rfl hl.1 rfl (lv_room (Nat.le_of_ble_eq_true rfl)) dX3_text_18 ⟨by first | exact Nat.le_of_ble_eq_true rfl | omega, by first | exact Nat.le_of_ble_eq_true rfl | omega⟩) hS (by omega) (fun _ _ _ _ _ h => h.elim) (fun locs hq hS => ?_)
    refine x_if_eqB (tgt := 28) hx hb dX3_text_21 (by decide) (fun c21 => ?_) (fun c21 => ?_)
    · refine lv_iconst (v := nI 0) hx hb dX3_text_28 (by decide) ?_
      refine x_rw (z := bI false) (by decide) ?_
      refine lv_iconst (v := nI 1) hx hb dX3_text_29 (by decide) ?_
      refine x_goI (x_runV (As := [.int (bI false), .int (nI 1)]) (rest := []) ⟨hx, hb, hml, hown, hts⟩ hE h0 hS (c_X3_no l G y (nI L.length) th false 1 H0 hO) (cwV 2 hts gX3_text_X3_no rfl rfl rfl (by decide +kernel) ⟨Nat.le_of_ble_eq_true rfl, Nat.le_of_ble_eq_true rfl⟩) (gO.recv (C := RX3) hK hO rfl) (by omega) rfl rfl hl.1 rfl (lv_room (Nat.le_of_ble_eq_true rfl)) dX3_text_30 ⟨by first | exact Nat.le_of_ble_eq_true rfl | omega, by first | exact Nat.le_of_ble_eq_true rfl | omega⟩) hS (by omega) (fun _ _ _ _ _ h => h.elim) (fun r6 H5 locs hq hF hS => ?_)
      have hf2 := hf2.fr hF (by omega)
      have hf11 := hf11.fr hF (by omega)
      have hD := hD.fr hF (by omega)
      have hLA := hLA.fr hF (by omega)
      obtain ⟨hr_, hOn⟩ := hq
      refine x_rw (z := bI true) hr_ ?_
      replace hOn : MO G y (nI L.length) (nI 1) H5 := hOn
      have hMT := hMT.setO hF hOn
      have hO := hOn
      refine x_if_eqB (tgt := 41) hx hb dX3_text_33 (by decide) (fun c33 => ?_) (fun c33 => ?_)
      · exact absurd c33 (by decide)
      · refine lv_bipush (v := nI 32) hx hb dX3_text_36 (by decide) ?_
        refine lv_goto (tgt := 49) hx hb dX3_text_38 (by decide) ?_
        exact x_zret hx hb hr hlocks h0 hS (by omega) (by omega) dX3_text_49 (x_charN (by omega)) (MR.no n10 (rs1_1 (fun g => by first | exact inB_no c5 (inB_okN (n := 7) (by decide)) g.1 | (have g2 := g.2; rw [ix_N (by omega)] at g2; exact inB_no c21 (inB_okS (by omega)) g2))) (hMT.W hLA))
    · refine lv_iconst (v := nI 1) hx hb dX3_text_24 (by decide) ?_
      refine lv_goto (tgt := 29) hx hb dX3_text_25 (by decide) ?_
      refine x_rw (z := bI true) (by decide) ?_
      refine lv_iconst (v := nI 1) hx hb dX3_text_29 (by decide) ?_
      refine x_goI (x_runV (As := [.int (bI true), .int (nI 1)]) (rest := []) ⟨hx, hb, hml, hown, hts⟩ hE h0 hS (c_X3_no l G y (nI L.length) th true 1 H0 hO) (cwV 2 hts gX3_text_X3_no rfl rfl rfl (by decide +kernel) ⟨Nat.le_of_ble_eq_true rfl, Nat.le_of_ble_eq_true rfl⟩) (gO.recv (C := RX3) hK hO rfl) (by omega) rfl rfl hl.1 rfl (lv_room (Nat.le_of_ble_eq_true rfl)) dX3_text_30 ⟨by first | exact Nat.le_of_ble_eq_true rfl | omega, by first | exact Nat.le_of_ble_eq_true rfl | omega⟩) hS (by omega) (fun _ _ _ _ _ h => h.elim) (fun r8 H7 locs hq hF hS => ?_)
      have hf2 := hf2.fr hF (by omega)
      have hf11 := hf11.fr hF (by omega)
      have hD := hD.fr hF (by omega)
      have hLA := hLA.fr hF (by omega)
      obtain ⟨hr_, hOn⟩ := hq
      refine x_rw (z := bI false) hr_ ?_
      replace hOn : MO G y (nI L.length) 0 H7 := hOn
      have hMT := hMT.setO hF hOn
      have hO := hOn
      refine x_if_eqB (tgt := 41) hx hb dX3_text_33 (by decide) (fun c33 => ?_) (fun c33 => ?_)
      · obtain ⟨j, hj, rfl⟩ := (inB_okS (by omega)).mp c21
        refine lv_aload_n hx hb dX3_text_41 rfl (lv_at hl 0 rfl) ?_
        refine x_get (ci := 3) hx hb hts hown hK rfl hw1 2 (by decide) hw2 hO rfl dX3_text_42 ?_
        refine lv_iload_n hx hb dX3_text_45 rfl (lv_at hl 1 rfl) ?_
        obtain ⟨ft_a, hTa_a, hTf_a, hTn_a, hTc_a⟩ := (hMT.tx (i := i) (by omega))
        have hcl := hTc_a _ (cg_mem (L := txt i) (i := j) (by omega))
        refine x_aald (k := 4) (v := (tad i)) hx hb hK (by decide) rfl hf2 (by omega) (by decide) (hf2b _ (by omega)) dX3_text_46 ?_
        refine lv_iload_n hx hb dX3_text_47 rfl (lv_at hl 2 rfl) ?_
        refine x_cald hx hb hK hTa_a (by omega) (by decide) dX3_text_48 ?_
        refine x_rw (z := (nI (cg (txt i) j))) (hTf_a _ (by omega)) ?_
        exact x_zret hx hb hr hlocks h0 hS (by omega) (by omega) dX3_text_49 (x_charN (by omega)) (MR.ok (rs1_y ⟨⟨i, hi, rfl⟩, by rw [ix_N (by omega)]; exact ⟨j, hj, rfl⟩⟩) (by rw [ix_N (by omega), ix_N (by omega)]) (hMT.W hLA))
      · exact absurd c33 (by decide)

abbrev RMX3_tokens : Room := { frames := 4, cells := 0, slots := 0, locals := 81 }
set_option maxHeartbeats 4000000 in
set_option maxRecDepth 100000 in
theorem c_X3_tokens (l : Launch) (G : gG) (y : Nat) (L : List Nat) (txt : Nat → List Nat) (th : Int32) (x r : Int32) (H0 : Heap) (hMW : MW G y L txt th H0) : XM l yX3_tokens wsX3_tokens RMX3_tokens G [.ref y, .int x, .int r] H0 y (y + 34) 0 0 (qI (fun q H1 => MR G y (rs2 (okN 8 x) (okN 3 r)) (q = nI (tk (txt (ix x)) (ix r)).length) L L txt txt H1)) xN := by
  refine x_ofW (cc := cX3_tokens) (maxL := 3) (ret := (some .int)) (by decide) rfl (Nat.le_of_ble_eq_true rfl) ?_
  intro p e s m below meth c hx hb hr hml hown hts hlocks hout hin2 h0 hE ls hl
  replace hown : s.vm.findClass RX3 = some m.cls := hown
  have hK := hE.1
  have hS : va_S (gA y (y + 34) H0.size) H0 H0 [] := va_S.rf
  generalize hargs : ([.ref y, .int x, .int r] : List Value).toArray = args at hts ⊢
  have hw0 := hts (.fieldLink RX3 28 "ReleaseledgerModel" "many" "[[I") (by decide +kernel)
  have hw1 : ∀ w ∈ u_ws RX3 TX3 9, w ∈ wsX3_tokens := by decide +kernel
  have hl : lv_has ls 3 [(0, .ref y), (1, .int x), (2, .int r)] := hl
  obtain ⟨tad, w, hMT, hLA⟩ := hMW
  generalize hTe : H0.size = T at hMT
  obtain ⟨hO, hTd, ⟨f2, hf2, hf2b⟩, ⟨f11, hf11, hf11b⟩, htx, hLd, hyT, hTs⟩ := id hMT
  have hTd0 := hTd
  obtain ⟨fd, hD, hDf, hDn, hDc⟩ := hTd
  have hTe2 : T = H0.size := hTe.symm
  refine lv_aload_n hx hb dX3_tokens_0 rfl (lv_at hl 0 rfl) ?_
  refine lv_iload_n hx hb dX3_tokens_1 rfl (lv_at hl 1 rfl) ?_
  refine x_goI_ro (x_runS (As := [.int x]) (rest := [.ref y]) ⟨hx, hb, hml, hown, hts⟩ hE h0 hS (c_X3_isSlot l G x H0) (va_cwS 1 hts gX3_tokens_X3_isSlot rfl rfl rfl (by decide +kernel) ⟨Nat.le_of_ble_eq_true rfl, Nat.le_of_ble_eq_true rfl⟩) (by omega) rfl rfl hl.1 rfl (lv_room (Nat.le_of_ble_eq_true rfl)) dX3_tokens_2 ⟨by first | exact Nat.le_of_ble_eq_true rfl | omega, by first | exact Nat.le_of_ble_eq_true rfl | omega⟩) hS (by omega) (fun _ _ _ _ _ h => h.elim) (fun locs hq hS => ?_)
  rcases Bool.eq_false_or_eq_true (inB x (nI 0) (nI 7)) with hs | hs
  · refine x_rw (z := bI true) (congrArg bI hs) ?_
    refine lv_iconst (v := nI 1) hx hb dX3_tokens_5 (by decide) ?_
    refine x_goI (x_runV (As := [.int (bI true), .int (nI 1)]) (rest := []) ⟨hx, hb, hml, hown, hts⟩ hE h0 hS (c_X3_no l G y (nI L.length) th true 1 H0 hO) (cwV 2 hts gX3_tokens_X3_no rfl rfl rfl (by decide +kernel) ⟨Nat.le_of_ble_eq_true rfl, Nat.le_of_ble_eq_true rfl⟩) (gO.recv (C := RX3) hK hO rfl) (by omega) rfl rfl hl.1 rfl (lv_room (Nat.le_of_ble_eq_true rfl)) dX3_tokens_6 ⟨by first | exact Nat.le_of_ble_eq_true rfl | omega, by first | exact Nat.le_of_ble_eq_true rfl | omega⟩) hS (by omega) (fun _ _ _ _ _ h => h.elim) (fun r3 H2 locs hq hF hS => ?_)
    have hf2 := hf2.fr hF (by omega)
    have hf11 := hf11.fr hF (by omega)
    have hD := hD.fr hF (by omega)
    have hLA := hLA.fr hF (by omega)
    obtain ⟨hr_, hOn⟩ := hq
    refine x_rw (z := bI false) hr_ ?_
    replace hOn : MO G y (nI L.length) 0 H2 := hOn
    have hMT := hMT.setO hF hOn
    have hO := hOn
    refine x_if_neB (tgt := 26) hx hb dX3_tokens_9 (by decide) (fun c9 => ?_) (fun c9 => ?_)
    · exact absurd c9 (by decide)
    · obtain ⟨i, hi, rfl⟩ := (inB_okN (n := 7) (by decide)).mp hs
      refine lv_aload_n hx hb dX3_tokens_12 rfl (lv_at hl 0 rfl) ?_
      refine lv_iload_n hx hb dX3_tokens_13 rfl (lv_at hl 2 rfl) ?_
      refine lv_iconst (v := nI 0) hx hb dX3_tokens_14 (by decide) ?_
      refine lv_iconst (v := nI 2) hx hb dX3_tokens_15 (by decide) ?_
      refine x_goI_ro (x_runS (As := [.int r, .int (nI 0), .int (nI 2)]) (rest := [.ref y]) ⟨hx, hb, hml, hown, hts⟩ hE h0 hS (c_X3_in l G r (nI 0) (nI 2) H2) (va_cwS 3 hts gX3_tokens_X3_in rfl rfl rfl (by decide +kernel) ⟨Nat.le_of_ble_eq_true rfl, Nat.le_of_ble_eq_true rfl⟩) (by omega) rfl rfl hl.1 rfl (lv_room (Nat.le_of_ble_eq_true rfl)) dX3_tokens_16 ⟨by first | exact Nat.le_of_ble_eq_true rfl | omega, by first | exact Nat.le_of_ble_eq_true rfl | omega⟩) hS (by omega) (fun _ _ _ _ _ h => h.elim) (fun locs hq hS => ?_)
      rcases Bool.eq_false_or_eq_true (inB r (nI 0) (nI 2)) with ht0 | ht0
      · refine x_rw (z := bI true) (congrArg bI ht0) ?_
        refine lv_iconst (v := nI 2) hx hb dX3_tokens_19 (by decide) ?_
        refine x_goI (x_runV (As := [.int (bI true), .int (nI 2)]) (rest := []) ⟨hx, hb, hml, hown, hts⟩ hE h0 hS (c_X3_no l G y (nI L.length) 0 true 2 H2 hO) (cwV 2 hts gX3_tokens_X3_no rfl rfl rfl (by decide +kernel) ⟨Nat.le_of_ble_eq_true rfl, Nat.le_of_ble_eq_true rfl⟩) (gO.recv (C := RX3) hK hO rfl) (by omega) rfl rfl hl.1 rfl (lv_room (Nat.le_of_ble_eq_true rfl)) dX3_tokens_20 ⟨by first | exact Nat.le_of_ble_eq_true rfl | omega, by first | exact Nat.le_of_ble_eq_true rfl | omega⟩) hS (by omega) (fun _ _ _ _ _ h => h.elim) (fun r6 H5 locs hq hF hS => ?_)
        have hf2 := hf2.fr hF (by omega)
        have hf11 := hf11.fr hF (by omega)
        have hD := hD.fr hF (by omega)
        have hLA := hLA.fr hF (by omega)
        obtain ⟨hr_, hOn⟩ := hq
        refine x_rw (z := bI false) hr_ ?_
        replace hOn : MO G y (nI L.length) 0 H5 := hOn
        have hMT := hMT.setO hF hOn
        have hO := hOn
        refine x_if_eqB (tgt := 28) hx hb dX3_tokens_23 (by decide) (fun c23 => ?_) (fun c23 => ?_)
        · obtain ⟨t, ht, rfl⟩ := (inB_okN (n := 2) (by decide)).mp ht0
          refine lv_aload_n hx hb dX3_tokens_28 rfl (lv_at hl 0 rfl) ?_
          refine lv_iconst (v := nI 0) hx hb dX3_tokens_29 (by decide) ?_
          refine lv_iload_n hx hb dX3_tokens_30 rfl (lv_at hl 1 rfl) ?_
          refine x_goV (x_runV (As := [.int (nI 0), .int (nI i)]) (rest := []) ⟨hx, hb, hml, hown, hts⟩ hE h0 hS (c_X3_look_ l G y T L txt tad 0 w 0 (by decide) i (by omega) H5 hMT hLA) (cwV 2 hts gX3_tokens_X3_look_ rfl rfl rfl (by decide +kernel) ⟨Nat.le_of_ble_eq_true rfl, Nat.le_of_ble_eq_true rfl⟩) (gO.recv (C := RX3) hK hO rfl) (by omega) rfl rfl hl.1 rfl (lv_room (Nat.le_of_ble_eq_true rfl)) dX3_tokens_31 ⟨by first | exact Nat.le_of_ble_eq_true rfl | omega, by first | exact Nat.le_of_ble_eq_true rfl | omega⟩) hS (by omega) (fun _ _ _ _ _ h => h.elim) (fun  H7 locs hq hF hS => ?_)
          have hf2 := hf2.fr hF (by omega)
          have hf11 := hf11.fr hF (by omega)
          have hD := hD.fr hF (by omega)
          have hO := hO.fr hF (by omega)
          have hMT := hMT.fr hF (by omega)
          have hLA := hq
          have hr3 : t < 3 := (by omega)
          obtain ⟨m13, m16, m25, lmid, ⟨fn, m12, hfn⟩, lcnt, ltok⟩ := id hLA
          obtain ⟨m17_s0, m26_s0⟩ := lmid 0 (by decide)
          obtain ⟨fm_s0, mm_s0, hfm_s0⟩ := lcnt 0 (by decide)
          replace hfm_s0 := hfm_s0 _ wset_self
          have h60_s0 := tk_le (txt i) t
          obtain ⟨fs_s0, fe_s0, ms_s0, me_s0, hse_s0⟩ := ltok 0 (by decide) t hr3
          replace hse_s0 := hse_s0 _ wset_self
          refine lv_aload_n hx hb dX3_tokens_34 rfl (lv_at hl 0 rfl) ?_
          refine x_get (ci := 3) hx hb hts hown hK rfl hw1 5 (by decide) hw0 hO rfl dX3_tokens_35 ?_
          refine lv_iconst (v := nI 0) hx hb dX3_tokens_38 (by decide) ?_
          refine x_aald (k := 3) (v := (y + 14 + 0)) hx hb hK (by decide) rfl m13 (by omega) (by decide) (by rw [rwk_at (by omega), Nat.one_mul]) dX3_tokens_39 ?_
          refine lv_iload_n hx hb dX3_tokens_40 rfl (lv_at hl 2 rfl) ?_
          refine x_iald hx hb hK mm_s0 (by omega) (by decide) dX3_tokens_41 ?_
          refine x_rw (z := (nI ((tk (txt i) t).length))) (hfm_s0 _ (by omega)) ?_
          exact x_iret hx hb hr hlocks h0 hS (by omega) (by omega) dX3_tokens_42 (MR.ok (rs2_y ⟨i, hi, rfl⟩ ⟨t, ht, rfl⟩) (by rw [ix_N (by omega), ix_N (by omega)]) (hMT.W hLA))
        · exact absurd c23 (by decide)
      · refine x_rw (z := bI false) (congrArg bI ht0) ?_
        refine lv_iconst (v := nI 2) hx hb dX3_tokens_19 (by decide) ?_
        refine x_goI (x_runV (As := [.int (bI false), .int (nI 2)]) (rest := []) ⟨hx, hb, hml, hown, hts⟩ hE h0 hS (c_X3_no l G y (nI L.length) 0 false 2 H2 hO) (cwV 2 hts gX3_tokens_X3_no rfl rfl rfl (by decide +kernel) ⟨Nat.le_of_ble_eq_true rfl, Nat.le_of_ble_eq_true rfl⟩) (gO.recv (C := RX3) hK hO rfl) (by omega) rfl rfl hl.1 rfl (lv_room (Nat.le_of_ble_eq_true rfl)) dX3_tokens_20 ⟨by first | exact Nat.le_of_ble_eq_true rfl | omega, by first | exact Nat.le_of_ble_eq_true rfl | omega⟩) hS (by omega) (fun _ _ _ _ _ h => h.elim) (fun r9 H8 locs hq hF hS => ?_)
        have hf2 := hf2.fr hF (by omega)
        have hf11 := hf11.fr hF (by omega)
        have hD := hD.fr hF (by omega)
        have hLA := hLA.fr hF (by omega)
        obtain ⟨hr_, hOn⟩ := hq
        refine x_rw (z := bI true) hr_ ?_
        replace hOn : MO G y (nI L.length) (nI 2) H8 := hOn
        have hMT := hMT.setO hF hOn
        have hO := hOn
        refine x_if_eqB (tgt := 28) hx hb dX3_tokens_23 (by decide) (fun c23 => ?_) (fun c23 => ?_)
        · exact absurd c23 (by decide)
        · refine lv_iconst (v := nI 0) hx hb dX3_tokens_26 (by decide) ?_
          exact x_iret hx hb hr hlocks h0 hS (by omega) (by omega) dX3_tokens_27 (MR.no n20 (rs2_2 ⟨i, hi, rfl⟩ (fun g => inB_no ht0 (inB_okN (n := 2) (by decide)) g)) (hMT.W hLA))
  · refine x_rw (z := bI false) (congrArg bI hs) ?_
    refine lv_iconst (v := nI 1) hx hb dX3_tokens_5 (by decide) ?_
    refine x_goI (x_runV (As := [.int (bI false), .int (nI 1)]) (rest := []) ⟨hx, hb, hml, hown, hts⟩ hE h0 hS (c_X3_no l G y (nI L.length) th false 1 H0 hO) (cwV 2 hts gX3_tokens_X3_no rfl rfl rfl (by decide +kernel) ⟨Nat.le_of_ble_eq_true rfl, Nat.le_of_ble_eq_true rfl⟩) (gO.recv (C := RX3) hK hO rfl) (by omega) rfl rfl hl.1 rfl (lv_room (Nat.le_of_ble_eq_true rfl)) dX3_tokens_6 ⟨by first | exact Nat.le_of_ble_eq_true rfl | omega, by first | exact Nat.le_of_ble_eq_true rfl | omega⟩) hS (by omega) (fun _ _ _ _ _ h => h.elim) (fun r11 H10 locs hq hF hS => ?_)
    have hf2 := hf2.fr hF (by omega)
    have hf11 := hf11.fr hF (by omega)
    have hD := hD.fr hF (by omega)
    have hLA := hLA.fr hF (by omega)
    obtain ⟨hr_, hOn⟩ := hq
    refine x_rw (z := bI true) hr_ ?_
    replace hOn : MO G y (nI L.length) (nI 1) H10 := hOn
    have hMT := hMT.setO hF hOn
    have hO := hOn
    refine x_if_neB (tgt := 26) hx hb dX3_tokens_9 (by decide) (fun c9 => ?_) (fun c9 => ?_)
    · refine lv_iconst (v := nI 0) hx hb dX3_tokens_26 (by decide) ?_
      exact x_iret hx hb hr hlocks h0 hS (by omega) (by omega) dX3_tokens_27 (MR.no n10 (rs2_1 (fun g => inB_no hs (inB_okN (n := 7) (by decide)) g)) (hMT.W hLA))
    · exact absurd c9 (by decide)

abbrev RMX3_token : Room := { frames := 4, cells := 0, slots := 0, locals := 81 }
set_option maxHeartbeats 4000000 in
set_option maxRecDepth 100000 in
theorem c_X3_token (l : Launch) (G : gG) (y : Nat) (L : List Nat) (txt : Nat → List Nat) (th : Int32) (x r z : Int32) (H0 : Heap) (hMW : MW G y L txt th H0) : XM l yX3_token wsX3_token RMX3_token G [.ref y, .int x, .int r, .int z] H0 y (y + 34) 0 0 (qI (fun q H1 => MR G y (rsT (okN 8 x) (okN 3 r) (okN (tk (txt (ix x)) (ix r)).length z)) (q = tsz (txt (ix x)) (tk (txt (ix x))) (ix r) (ix z)) L L txt txt H1)) xN := by
  refine x_ofW (cc := cX3_token) (maxL := 4) (ret := (some .int)) (by decide) rfl (Nat.le_of_ble_eq_true rfl) ?_
  intro p e s m below meth c hx hb hr hml hown hts hlocks hout hin2 h0 hE ls hl
  replace hown : s.vm.findClass RX3 = some m.cls := hown
  have hK := hE.1
  have hS : va_S (gA y (y + 34) H0.size) H0 H0 [] := va_S.rf
  generalize hargs : ([.ref y, .int x, .int r, .int z] : List Value).toArray = args at hts ⊢
  have hw0 := hts (.fieldLink RX3 28 "ReleaseledgerModel" "many" "[[I") (by decide +kernel)
  have hw1 : ∀ w ∈ u_ws RX3 TX3 9, w ∈ wsX3_token := by decide +kernel
  have hw2 := hts (.fieldLink RX3 36 "ReleaseledgerModel" "ends" "[[[I") (by decide +kernel)
  have hw3 := hts (.fieldLink RX3 33 "ReleaseledgerModel" "starts" "[[[I") (by decide +kernel)
  have hl : lv_has ls 4 [(0, .ref y), (1, .int x), (2, .int r), (3, .int z)] := hl
  obtain ⟨tad, w, hMT, hLA⟩ := hMW
  generalize hTe : H0.size = T at hMT
  obtain ⟨hO, hTd, ⟨f2, hf2, hf2b⟩, ⟨f11, hf11, hf11b⟩, htx, hLd, hyT, hTs⟩ := id hMT
  have hTd0 := hTd
  obtain ⟨fd, hD, hDf, hDn, hDc⟩ := hTd
  have hTe2 : T = H0.size := hTe.symm
  refine lv_aload_n hx hb dX3_token_0 rfl (lv_at hl 0 rfl) ?_
  refine lv_iload_n hx hb dX3_token_1 rfl (lv_at hl 1 rfl) ?_
  refine x_goI_ro (x_runS (As := [.int x]) (rest := [.ref y]) ⟨hx, hb, hml, hown, hts⟩ hE h0 hS (c_X3_isSlot l G x H0) (va_cwS 1 hts gX3_token_X3_isSlot rfl rfl rfl (by decide +kernel) ⟨Nat.le_of_ble_eq_true rfl, Nat.le_of_ble_eq_true rfl⟩) (by omega) rfl rfl hl.1 rfl (lv_room (Nat.le_of_ble_eq_true rfl)) dX3_token_2 ⟨by first | exact Nat.le_of_ble_eq_true rfl | omega, by first | exact Nat.le_of_ble_eq_true rfl | omega⟩) hS (by omega) (fun _ _ _ _ _ h => h.elim) (fun locs hq hS => ?_)
  rcases Bool.eq_false_or_eq_true (inB x (nI 0) (nI 7)) with hs | hs
  · refine x_rw (z := bI true) (congrArg bI hs) ?_
    refine lv_iconst (v := nI 1) hx hb dX3_token_5 (by decide) ?_
    refine x_goI (x_runV (As := [.int (bI true), .int (nI 1)]) (rest := []) ⟨hx, hb, hml, hown, hts⟩ hE h0 hS (c_X3_no l G y (nI L.length) th true 1 H0 hO) (cwV 2 hts gX3_token_X3_no rfl rfl rfl (by decide +kernel) ⟨Nat.le_of_ble_eq_true rfl, Nat.le_of_ble_eq_true rfl⟩) (gO.recv (C := RX3) hK hO rfl) (by omega) rfl rfl hl.1 rfl (lv_room (Nat.le_of_ble_eq_true rfl)) dX3_token_6 ⟨by first | exact Nat.le_of_ble_eq_true rfl | omega, by first | exact Nat.le_of_ble_eq_true rfl | omega⟩) hS (by omega) (fun _ _ _ _ _ h => h.elim) (fun r3 H2 locs hq hF hS => ?_)
    have hf2 := hf2.fr hF (by omega)
    have hf11 := hf11.fr hF (by omega)
    have hD := hD.fr hF (by omega)
    have hLA := hLA.fr hF (by omega)
    obtain ⟨hr_, hOn⟩ := hq
    refine x_rw (z := bI false) hr_ ?_
    replace hOn : MO G y (nI L.length) 0 H2 := hOn
    have hMT := hMT.setO hF hOn
    have hO := hOn
    refine x_if_neB (tgt := 26) hx hb dX3_token_9 (by decide) (fun c9 => ?_) (fun c9 => ?_)
    · exact absurd c9 (by decide)
    · obtain ⟨i, hi, rfl⟩ := (inB_okN (n := 7) (by decide)).mp hs
      refine lv_aload_n hx hb dX3_token_12 rfl (lv_at hl 0 rfl) ?_
      refine lv_iload_n hx hb dX3_token_13 rfl (lv_at hl 2 rfl) ?_
      refine lv_iconst (v := nI 0) hx hb dX3_token_14 (by decide) ?_
      refine lv_iconst (v := nI 2) hx hb dX3_token_15 (by decide) ?_
      refine x_goI_ro (x_runS (As := [.int r, .int (nI 0), .int (nI 2)]) (rest := [.ref y]) ⟨hx, hb, hml, hown, hts⟩ hE h0 hS (c_X3_in l G r (nI 0) (nI 2) H2) (va_cwS 3 hts gX3_token_X3_in rfl rfl rfl (by decide +kernel) ⟨Nat.le_of_ble_eq_true rfl, Nat.le_of_ble_eq_true rfl⟩) (by omega) rfl rfl hl.1 rfl (lv_room (Nat.le_of_ble_eq_true rfl)) dX3_token_16 ⟨by first | exact Nat.le_of_ble_eq_true rfl | omega, by first | exact Nat.le_of_ble_eq_true rfl | omega⟩) hS (by omega) (fun _ _ _ _ _ h => h.elim) (fun locs hq hS => ?_)
      rcases Bool.eq_false_or_eq_true (inB r (nI 0) (nI 2)) with ht0 | ht0
      · refine x_rw (z := bI true) (congrArg bI ht0) ?_
        refine lv_iconst (v := nI 2) hx hb dX3_token_19 (by decide) ?_
        refine x_goI (x_runV (As := [.int (bI true), .int (nI 2)]) (rest := []) ⟨hx, hb, hml, hown, hts⟩ hE h0 hS (c_X3_no l G y (nI L.length) 0 true 2 H2 hO) (cwV 2 hts gX3_token_X3_no rfl rfl rfl (by decide +kernel) ⟨Nat.le_of_ble_eq_true rfl, Nat.le_of_ble_eq_true rfl⟩) (gO.recv (C := RX3) hK hO rfl) (by omega) rfl rfl hl.1 rfl (lv_room (Nat.le_of_ble_eq_true rfl)) dX3_token_20 ⟨by first | exact Nat.le_of_ble_eq_true rfl | omega, by first | exact Nat.le_of_ble_eq_true rfl | omega⟩) hS (by omega) (fun _ _ _ _ _ h => h.elim) (fun r6 H5 locs hq hF hS => ?_)
        have hf2 := hf2.fr hF (by omega)
        have hf11 := hf11.fr hF (by omega)
        have hD := hD.fr hF (by omega)
        have hLA := hLA.fr hF (by omega)
        obtain ⟨hr_, hOn⟩ := hq
        refine x_rw (z := bI false) hr_ ?_
        replace hOn : MO G y (nI L.length) 0 H5 := hOn
        have hMT := hMT.setO hF hOn
        have hO := hOn
        refine x_if_eqB (tgt := 28) hx hb dX3_token_23 (by decide) (fun c23 => ?_) (fun c23 => ?_)
        · obtain ⟨t, ht, rfl⟩ := (inB_okN (n := 2) (by decide)).mp ht0
          refine lv_aload_n hx hb dX3_token_28 rfl (lv_at hl 0 rfl) ?_
          refine lv_iconst (v := nI 0) hx hb dX3_token_29 (by decide) ?_
          refine lv_iload_n hx hb dX3_token_30 rfl (lv_at hl 1 rfl) ?_
          refine x_goV (x_runV (As := [.int (nI 0), .int (nI i)]) (rest := []) ⟨hx, hb, hml, hown, hts⟩ hE h0 hS (c_X3_look_ l G y T L txt tad 0 w 0 (by decide) i (by omega) H5 hMT hLA) (cwV 2 hts gX3_token_X3_look_ rfl rfl rfl (by decide +kernel) ⟨Nat.le_of_ble_eq_true rfl, Nat.le_of_ble_eq_true rfl⟩) (gO.recv (C := RX3) hK hO rfl) (by omega) rfl rfl hl.1 rfl (lv_room (Nat.le_of_ble_eq_true rfl)) dX3_token_31 ⟨by first | exact Nat.le_of_ble_eq_true rfl | omega, by first | exact Nat.le_of_ble_eq_true rfl | omega⟩) hS (by omega) (fun _ _ _ _ _ h => h.elim) (fun  H7 locs hq hF hS => ?_)
          have hf2 := hf2.fr hF (by omega)
          have hf11 := hf11.fr hF (by omega)
          have hD := hD.fr hF (by omega)
          have hO := hO.fr hF (by omega)
          have hMT := hMT.fr hF (by omega)
          have hLA := hq
          have hgi := hMT.gt (i := i) (by omega)
          have hle_i := hgi.le
          have hr3 : t < 3 := (by omega)
          obtain ⟨m13, m16, m25, lmid, ⟨fn, m12, hfn⟩, lcnt, ltok⟩ := id hLA
          obtain ⟨m17_s0, m26_s0⟩ := lmid 0 (by decide)
          obtain ⟨fm_s0, mm_s0, hfm_s0⟩ := lcnt 0 (by decide)
          replace hfm_s0 := hfm_s0 _ wset_self
          have h60_s0 := tk_le (txt i) t
          obtain ⟨fs_s0, fe_s0, ms_s0, me_s0, hse_s0⟩ := ltok 0 (by decide) t hr3
          replace hse_s0 := hse_s0 _ wset_self
          refine lv_aload_n hx hb dX3_token_34 rfl (lv_at hl 0 rfl) ?_
          refine lv_iload_n hx hb dX3_token_35 rfl (lv_at hl 3 rfl) ?_
          refine lv_iconst (v := nI 0) hx hb dX3_token_36 (by decide) ?_
          refine lv_aload_n hx hb dX3_token_37 rfl (lv_at hl 0 rfl) ?_
          refine x_get (ci := 3) hx hb hts hown hK rfl hw1 5 (by decide) hw0 hO rfl dX3_token_38 ?_
          refine lv_iconst (v := nI 0) hx hb dX3_token_41 (by decide) ?_
          refine x_aald (k := 3) (v := (y + 14 + 0)) hx hb hK (by decide) rfl m13 (by omega) (by decide) (by rw [rwk_at (by omega), Nat.one_mul]) dX3_token_42 ?_
          refine lv_iload_n hx hb dX3_token_43 rfl (lv_at hl 2 rfl) ?_
          refine x_iald hx hb hK mm_s0 (by omega) (by decide) dX3_token_44 ?_
          refine x_rw (z := (nI ((tk (txt i) t).length))) (hfm_s0 _ (by omega)) ?_
          refine lv_iconst (v := nI 1) hx hb dX3_token_45 (by decide) ?_
          refine lv_isub hx hb dX3_token_46 ?_
          refine x_rw (z := (nI (tk (txt i) t).length - nI 1)) rfl ?_
          refine x_goI_ro (x_runS (As := [.int z, .int (nI 0), .int (nI (tk (txt i) t).length - nI 1)]) (rest := [.ref y]) ⟨hx, hb, hml, hown, hts⟩ hE h0 hS (c_X3_in l G z (nI 0) (nI (tk (txt i) t).length - nI 1) H7) (va_cwS 3 hts gX3_token_X3_in rfl rfl rfl (by decide +kernel) ⟨Nat.le_of_ble_eq_true rfl, Nat.le_of_ble_eq_true rfl⟩) (by omega) rfl rfl hl.1 rfl (lv_room (Nat.le_of_ble_eq_true rfl)) dX3_token_47 ⟨by first | exact Nat.le_of_ble_eq_true rfl | omega, by first | exact Nat.le_of_ble_eq_true rfl | omega⟩) hS (by omega) (fun _ _ _ _ _ h => h.elim) (fun locs hq hS => ?_)
          rcases Bool.eq_false_or_eq_true (inB z (nI 0) (nI (tk (txt i) t).length - nI 1)) with hk0 | hk0
          · refine x_rw (z := bI true) (congrArg bI hk0) ?_
            refine lv_iconst (v := nI 1) hx hb dX3_token_50 (by decide) ?_
            refine x_goI (x_runV (As := [.int (bI true), .int (nI 1)]) (rest := []) ⟨hx, hb, hml, hown, hts⟩ hE h0 hS (c_X3_no l G y (nI L.length) 0 true 1 H7 hO) (cwV 2 hts gX3_token_X3_no rfl rfl rfl (by decide +kernel) ⟨Nat.le_of_ble_eq_true rfl, Nat.le_of_ble_eq_true rfl⟩) (gO.recv (C := RX3) hK hO rfl) (by omega) rfl rfl hl.1 rfl (lv_room (Nat.le_of_ble_eq_true rfl)) dX3_token_51 ⟨by first | exact Nat.le_of_ble_eq_true rfl | omega, by first | exact Nat.le_of_ble_eq_true rfl | omega⟩) hS (by omega) (fun _ _ _ _ _ h => h.elim) (fun r10 H9 locs hq hF hS => ?_)
            have hf2 := hf2.fr hF (by omega)
            have hf11 := hf11.fr hF (by omega)
            have hD := hD.fr hF (by omega)
            have m13 := m13.fr hF (by omega)
            have m16 := m16.fr hF (by omega)
            have m25 := m25.fr hF (by omega)
            have m12 := m12.fr hF (by omega)
            have mm_s0 := mm_s0.fr hF (by omega)
            have m17_s0 := m17_s0.fr hF (by omega)
            have m26_s0 := m26_s0.fr hF (by omega)
            have ms_s0 := ms_s0.fr hF (by omega)
            have me_s0 := me_s0.fr hF (by omega)
            have hLA := hLA.fr hF (by omega)
            obtain ⟨hr_, hOn⟩ := hq
            refine x_rw (z := bI false) hr_ ?_
            replace hOn : MO G y (nI L.length) 0 H9 := hOn
            have hMT := hMT.setO hF hOn
            have hO := hOn
            refine x_if_eqB (tgt := 59) hx hb dX3_token_54 (by decide) (fun c54 => ?_) (fun c54 => ?_)
            · obtain ⟨k, hk, rfl⟩ := (inB_okS (by omega)).mp hk0
              have htl := hgi.J.lt (r := t) (i := k) (by omega) (by omega)
              refine lv_aload_n hx hb dX3_token_59 rfl (lv_at hl 0 rfl) ?_
              refine lv_iconst (v := nI 0) hx hb dX3_token_60 (by decide) ?_
              refine lv_iload_n hx hb dX3_token_61 rfl (lv_at hl 2 rfl) ?_
              refine lv_iload_n hx hb dX3_token_62 rfl (lv_at hl 3 rfl) ?_
              refine x_goI_ro (x_runV (As := [.int (nI 0), .int (nI t), .int (nI k)]) (rest := []) ⟨hx, hb, hml, hown, hts⟩ hE h0 hS (c_X3_isNumber l G y (nI L.length) 0 (wset w 0 (tad i, tk (txt i))) 0 (by decide) (tad i) (txt i) wset_self hgi.J t k (by omega) (by omega) H9 hO hLA (hMT.tx (by omega))) (cwV 3 hts gX3_token_X3_isNumber rfl rfl rfl (by decide +kernel) ⟨Nat.le_of_ble_eq_true rfl, Nat.le_of_ble_eq_true rfl⟩) (gO.recv (C := RX3) hK hO rfl) (by omega) rfl rfl hl.1 rfl (lv_room (Nat.le_of_ble_eq_true rfl)) dX3_token_63 ⟨by first | exact Nat.le_of_ble_eq_true rfl | omega, by first | exact Nat.le_of_ble_eq_true rfl | omega⟩) hS (by omega) (fun _ _ _ _ _ h => h.elim) (fun locs hq hS => ?_)
              refine x_if_eqB (tgt := 79) hx hb dX3_token_66 (by decide) (fun c66 => ?_) (fun c66 => ?_)
              · refine lv_iconst (v := (-1)) hx hb dX3_token_79 (by decide) ?_
                refine lv_aload_n hx hb dX3_token_80 rfl (lv_at hl 0 rfl) ?_
                refine x_get (ci := 3) hx hb hts hown hK rfl hw1 7 (by decide) hw2 hO rfl dX3_token_81 ?_
                refine lv_iconst (v := nI 0) hx hb dX3_token_84 (by decide) ?_
                refine x_aald (k := 5) (v := (y + 26 + 4 * 0)) hx hb hK (by decide) rfl m25 (by omega) (by decide) (rwk_at (by omega)) dX3_token_85 ?_
                refine lv_iload_n hx hb dX3_token_86 rfl (lv_at hl 2 rfl) ?_
                refine x_aald (k := 3) (v := (y + 27 + 4 * 0 + t)) hx hb hK (by decide) rfl m26_s0 (by omega) (by decide) (rw3_at (by omega)) dX3_token_87 ?_
                refine lv_iload_n hx hb dX3_token_88 rfl (lv_at hl 3 rfl) ?_
                refine x_iald hx hb hK me_s0 (by omega) (by decide) dX3_token_89 ?_
                refine x_rw (z := (nI ((tg (tk (txt i) t) k).2))) (hse_s0 _ (by omega)).2 ?_
                refine lv_aload_n hx hb dX3_token_90 rfl (lv_at hl 0 rfl) ?_
                refine x_get (ci := 3) hx hb hts hown hK rfl hw1 6 (by decide) hw3 hO rfl dX3_token_91 ?_
                refine lv_iconst (v := nI 0) hx hb dX3_token_94 (by decide) ?_
                refine x_aald (k := 5) (v := (y + 17 + 4 * 0)) hx hb hK (by decide) rfl m16 (by omega) (by decide) (rwk_at (by omega)) dX3_token_95 ?_
                refine lv_iload_n hx hb dX3_token_96 rfl (lv_at hl 2 rfl) ?_
                refine x_aald (k := 3) (v := (y + 18 + 4 * 0 + t)) hx hb hK (by decide) rfl m17_s0 (by omega) (by decide) (rw3_at (by omega)) dX3_token_97 ?_
                refine lv_iload_n hx hb dX3_token_98 rfl (lv_at hl 3 rfl) ?_
                refine x_iald hx hb hK ms_s0 (by omega) (by decide) dX3_token_99 ?_
                refine x_rw (z := (nI ((tg (tk (txt i) t) k).1))) (hse_s0 _ (by omega)).1 ?_
                refine lv_isub hx hb dX3_token_100 ?_
                refine x_rw (z := nI (((tg (tk (txt i) t) k).2) - ((tg (tk (txt i) t) k).1))) (pk_sub (by omega)) ?_
                refine lv_isub hx hb dX3_token_101 ?_
                refine x_rw (z := (wI ((tg (tk (txt i) t) k).2 - (tg (tk (txt i) t) k).1))) rfl ?_
                exact x_iret hx hb hr hlocks h0 hS (by omega) (by omega) dX3_token_102 (MR.ok (rsT_y ⟨i, hi, rfl⟩ ⟨t, ht, rfl⟩ (by rw [ix_N (by omega), ix_N (by omega)]; exact ⟨k, hk, rfl⟩)) (by rw [ix_N (by omega), ix_N (by omega), ix_N (by omega), tsz_in hk, szI_w (nB_f c66).2]) (hMT.W hLA))
              · refine lv_aload_n hx hb dX3_token_69 rfl (lv_at hl 0 rfl) ?_
                refine lv_iconst (v := nI 0) hx hb dX3_token_70 (by decide) ?_
                refine lv_iload_n hx hb dX3_token_71 rfl (lv_at hl 2 rfl) ?_
                refine lv_iload_n hx hb dX3_token_72 rfl (lv_at hl 3 rfl) ?_
                refine x_goI_ro (x_runV (As := [.int (nI 0), .int (nI t), .int (nI k)]) (rest := []) ⟨hx, hb, hml, hown, hts⟩ hE h0 hS (c_X3_number l G y (nI L.length) 0 (wset w 0 (tad i, tk (txt i))) 0 (by decide) (tad i) (txt i) wset_self hgi.J t k (by omega) (by omega) c66 H9 hO hLA (hMT.tx (by omega))) (cwV 3 hts gX3_token_X3_number rfl rfl rfl (by decide +kernel) ⟨Nat.le_of_ble_eq_true rfl, Nat.le_of_ble_eq_true rfl⟩) (gO.recv (C := RX3) hK hO rfl) (by omega) rfl rfl hl.1 rfl (lv_room (Nat.le_of_ble_eq_true rfl)) dX3_token_73 ⟨by first | exact Nat.le_of_ble_eq_true rfl | omega, by first | exact Nat.le_of_ble_eq_true rfl | omega⟩) hS (by omega) (fun _ _ _ _ _ h => h.elim) (fun locs hq hS => ?_)
                refine lv_goto (tgt := 102) hx hb dX3_token_76 (by decide) ?_
                exact x_iret hx hb hr hlocks h0 hS (by omega) (by omega) dX3_token_102 (MR.ok (rsT_y ⟨i, hi, rfl⟩ ⟨t, ht, rfl⟩ (by rw [ix_N (by omega), ix_N (by omega)]; exact ⟨k, hk, rfl⟩)) (by rw [ix_N (by omega), ix_N (by omega), ix_N (by omega), tz_num c66]) (hMT.W hLA))
            · exact absurd c54 (by decide)
          · refine x_rw (z := bI false) (congrArg bI hk0) ?_
            refine lv_iconst (v := nI 1) hx hb dX3_token_50 (by decide) ?_
            refine x_goI (x_runV (As := [.int (bI false), .int (nI 1)]) (rest := []) ⟨hx, hb, hml, hown, hts⟩ hE h0 hS (c_X3_no l G y (nI L.length) 0 false 1 H7 hO) (cwV 2 hts gX3_token_X3_no rfl rfl rfl (by decide +kernel) ⟨Nat.le_of_ble_eq_true rfl, Nat.le_of_ble_eq_true rfl⟩) (gO.recv (C := RX3) hK hO rfl) (by omega) rfl rfl hl.1 rfl (lv_room (Nat.le_of_ble_eq_true rfl)) dX3_token_51 ⟨by first | exact Nat.le_of_ble_eq_true rfl | omega, by first | exact Nat.le_of_ble_eq_true rfl | omega⟩) hS (by omega) (fun _ _ _ _ _ h => h.elim) (fun r14 H13 locs hq hF hS => ?_)
            have hf2 := hf2.fr hF (by omega)
            have hf11 := hf11.fr hF (by omega)
            have hD := hD.fr hF (by omega)
            have m13 := m13.fr hF (by omega)
            have m16 := m16.fr hF (by omega)
            have m25 := m25.fr hF (by omega)
            have m12 := m12.fr hF (by omega)
            have mm_s0 := mm_s0.fr hF (by omega)
            have m17_s0 := m17_s0.fr hF (by omega)
            have m26_s0 := m26_s0.fr hF (by omega)
            have ms_s0 := ms_s0.fr hF (by omega)
            have me_s0 := me_s0.fr hF (by omega)
            have hLA := hLA.fr hF (by omega)
            obtain ⟨hr_, hOn⟩ := hq
            refine x_rw (z := bI true) hr_ ?_
            replace hOn : MO G y (nI L.length) (nI 1) H13 := hOn
            have hMT := hMT.setO hF hOn
            have hO := hOn
            refine x_if_eqB (tgt := 59) hx hb dX3_token_54 (by decide) (fun c54 => ?_) (fun c54 => ?_)
            · exact absurd c54 (by decide)
            · refine lv_iconst (v := nI 0) hx hb dX3_token_57 (by decide) ?_
              exact x_iret hx hb hr hlocks h0 hS (by omega) (by omega) dX3_token_58 (MR.no n10 (rsT_3 ⟨i, hi, rfl⟩ ⟨t, ht, rfl⟩ (fun g => by rw [ix_N (by omega), ix_N (by omega)] at g; exact inB_no hk0 (inB_okS (by omega)) g)) (hMT.W hLA))
        · exact absurd c23 (by decide)
      · refine x_rw (z := bI false) (congrArg bI ht0) ?_
        refine lv_iconst (v := nI 2) hx hb dX3_token_19 (by decide) ?_
        refine x_goI (x_runV (As := [.int (bI false), .int (nI 2)]) (rest := []) ⟨hx, hb, hml, hown, hts⟩ hE h0 hS (c_X3_no l G y (nI L.length) 0 false 2 H2 hO) (cwV 2 hts gX3_token_X3_no rfl rfl rfl (by decide +kernel) ⟨Nat.le_of_ble_eq_true rfl, Nat.le_of_ble_eq_true rfl⟩) (gO.recv (C := RX3) hK hO rfl) (by omega) rfl rfl hl.1 rfl (lv_room (Nat.le_of_ble_eq_true rfl)) dX3_token_20 ⟨by first | exact Nat.le_of_ble_eq_true rfl | omega, by first | exact Nat.le_of_ble_eq_true rfl | omega⟩) hS (by omega) (fun _ _ _ _ _ h => h.elim) (fun r16 H15 locs hq hF hS => ?_)
        have hf2 := hf2.fr hF (by omega)
        have hf11 := hf11.fr hF (by omega)
        have hD := hD.fr hF (by omega)
        have hLA := hLA.fr hF (by omega)
        obtain ⟨hr_, hOn⟩ := hq
        refine x_rw (z := bI true) hr_ ?_
        replace hOn : MO G y (nI L.length) (nI 2) H15 := hOn
        have hMT := hMT.setO hF hOn
        have hO := hOn
        refine x_if_eqB (tgt := 28) hx hb dX3_token_23 (by decide) (fun c23 => ?_) (fun c23 => ?_)
        · exact absurd c23 (by decide)
        · refine lv_iconst (v := nI 0) hx hb dX3_token_26 (by decide) ?_
          exact x_iret hx hb hr hlocks h0 hS (by omega) (by omega) dX3_token_27 (MR.no n20 (rsT_2 ⟨i, hi, rfl⟩ (fun g => inB_no ht0 (inB_okN (n := 2) (by decide)) g)) (hMT.W hLA))
  · refine x_rw (z := bI false) (congrArg bI hs) ?_
    refine lv_iconst (v := nI 1) hx hb dX3_token_5 (by decide) ?_
    refine x_goI (x_runV (As := [.int (bI false), .int (nI 1)]) (rest := []) ⟨hx, hb, hml, hown, hts⟩ hE h0 hS (c_X3_no l G y (nI L.length) th false 1 H0 hO) (cwV 2 hts gX3_token_X3_no rfl rfl rfl (by decide +kernel) ⟨Nat.le_of_ble_eq_true rfl, Nat.le_of_ble_eq_true rfl⟩) (gO.recv (C := RX3) hK hO rfl) (by omega) rfl rfl hl.1 rfl (lv_room (Nat.le_of_ble_eq_true rfl)) dX3_token_6 ⟨by first | exact Nat.le_of_ble_eq_true rfl | omega, by first | exact Nat.le_of_ble_eq_true rfl | omega⟩) hS (by omega) (fun _ _ _ _ _ h => h.elim) (fun r18 H17 locs hq hF hS => ?_)
    have hf2 := hf2.fr hF (by omega)
    have hf11 := hf11.fr hF (by omega)
    have hD := hD.fr hF (by omega)
    have hLA := hLA.fr hF (by omega)
    obtain ⟨hr_, hOn⟩ := hq
    refine x_rw (z := bI true) hr_ ?_
    replace hOn : MO G y (nI L.length) (nI 1) H17 := hOn
    have hMT := hMT.setO hF hOn
    have hO := hOn
    refine x_if_neB (tgt := 26) hx hb dX3_token_9 (by decide) (fun c9 => ?_) (fun c9 => ?_)
    · refine lv_iconst (v := nI 0) hx hb dX3_token_26 (by decide) ?_
      exact x_iret hx hb hr hlocks h0 hS (by omega) (by omega) dX3_token_27 (MR.no n10 (rsT_1 (fun g => inB_no hs (inB_okN (n := 7) (by decide)) g)) (hMT.W hLA))
    · exact absurd c9 (by decide)
