abbrev RMX3_compare : Room := { frames := 6, cells := 1, slots := 2, locals := 124 }
set_option maxHeartbeats 4000000 in
set_option maxRecDepth 100000 in
theorem c_X3_compare (l : Launch) (G : gG) (y : Nat) (L : List Nat) (txt : Nat → List Nat) (th : Int32) (x z : Int32) (H0 : Heap) (hMW : MW G y L txt th H0) : XM l yX3_compare wsX3_compare RMX3_compare G [.ref y, .int x, .int z] H0 y (y + 34) 1 2 (qI (fun r H1 => MR G y (rs1 (okN 8 x ∧ okN 8 z)) (r = ordr (txt (ix x)) (txt (ix z))) L L txt txt H1)) xN := by
  refine x_ofW (cc := cX3_compare) (maxL := 3) (ret := (some .int)) (by decide) rfl (Nat.le_of_ble_eq_true rfl) ?_
  intro p e s m below meth c hx hb hr hml hown hts hlocks hout hin2 h0 hE ls hl
  replace hown : s.vm.findClass RX3 = some m.cls := hown
  have hK := hE.1
  have hS : va_S (gA y (y + 34) H0.size) H0 H0 [] := va_S.rf
  generalize hargs : ([.ref y, .int x, .int z] : List Value).toArray = args at hts ⊢
  have hl : lv_has ls 3 [(0, .ref y), (1, .int x), (2, .int z)] := hl
  obtain ⟨tad, w, hMT, hLA⟩ := hMW
  generalize hTe : H0.size = T at hMT
  obtain ⟨hO, hTd, ⟨f2, hf2, hf2b⟩, ⟨f11, hf11, hf11b⟩, htx, hLd, hyT, hTs⟩ := id hMT
  have hTd0 := hTd
  obtain ⟨fd, hD, hDf, hDn, hDc⟩ := hTd
  have hTe2 : T = H0.size := hTe.symm
  have hLE : LE G y H0 := ⟨w, hLA⟩
  refine lv_aload_n hx hb dX3_compare_0 rfl (lv_at hl 0 rfl) ?_
  refine lv_iload_n hx hb dX3_compare_1 rfl (lv_at hl 1 rfl) ?_
  refine x_goI_ro (x_runS (As := [.int x]) (rest := [.ref y]) ⟨hx, hb, hml, hown, hts⟩ hE h0 hS (c_X3_isSlot l G x H0) (va_cwS 1 hts gX3_compare_X3_isSlot rfl rfl rfl (by decide +kernel) ⟨Nat.le_of_ble_eq_true rfl, Nat.le_of_ble_eq_true rfl⟩) (by omega) rfl rfl hl.1 rfl (lv_room (Nat.le_of_ble_eq_true rfl)) dX3_compare_2 ⟨by first | exact Nat.le_of_ble_eq_true rfl | omega, by first | exact Nat.le_of_ble_eq_true rfl | omega⟩) hS (by omega) (fun _ _ _ _ _ h => h.elim) (fun locs hq hS => ?_)
  refine x_if_eqB (tgt := 19) hx hb dX3_compare_5 (by decide) (fun c5 => ?_) (fun c5 => ?_)
  · refine lv_iconst (v := nI 0) hx hb dX3_compare_19 (by decide) ?_
    refine x_rw (z := bI false) (by decide) ?_
    refine lv_iconst (v := nI 1) hx hb dX3_compare_20 (by decide) ?_
    refine x_goI (x_runV (As := [.int (bI false), .int (nI 1)]) (rest := []) ⟨hx, hb, hml, hown, hts⟩ hE h0 hS (c_X3_no l G y (nI L.length) th false 1 H0 hO) (cwV 2 hts gX3_compare_X3_no rfl rfl rfl (by decide +kernel) ⟨Nat.le_of_ble_eq_true rfl, Nat.le_of_ble_eq_true rfl⟩) (gO.recv (C := RX3) hK hO rfl) (by omega) rfl rfl hl.1 rfl (lv_room (Nat.le_of_ble_eq_true rfl)) dX3_compare_21 ⟨by first | exact Nat.le_of_ble_eq_true rfl | omega, by first | exact Nat.le_of_ble_eq_true rfl | omega⟩) hS (by omega) (fun _ _ _ _ _ h => h.elim) (fun r3 H2 locs hq hF hS => ?_)
    have hLE := hLE.fr hF (by omega)
    obtain ⟨hr_, hOn⟩ := hq
    refine x_rw (z := bI true) hr_ ?_
    replace hOn : MO G y (nI L.length) (nI 1) H2 := hOn
    have hMT := hMT.setO hF hOn
    have hO := hOn
    refine x_if_eqB (tgt := 31) hx hb dX3_compare_24 (by decide) (fun c24 => ?_) (fun c24 => ?_)
    · exact absurd c24 (by decide)
    · refine lv_iconst (v := nI 0) hx hb dX3_compare_27 (by decide) ?_
      refine lv_goto (tgt := 37) hx hb dX3_compare_28 (by decide) ?_
      exact x_iret hx hb hr hlocks h0 hS (by omega) (by omega) dX3_compare_37 (MR.no n10 (rs1_1 (inB_two (n := 7) (by decide) (by first | exact Or.inl c5 | exact Or.inr c12))) (hMT.WE hLE))
  · refine lv_iload_n hx hb dX3_compare_8 rfl (lv_at hl 2 rfl) ?_
    refine x_goI_ro (x_runS (As := [.int z]) (rest := [.ref y]) ⟨hx, hb, hml, hown, hts⟩ hE h0 hS (c_X3_isSlot l G z H0) (va_cwS 1 hts gX3_compare_X3_isSlot rfl rfl rfl (by decide +kernel) ⟨Nat.le_of_ble_eq_true rfl, Nat.le_of_ble_eq_true rfl⟩) (by omega) rfl rfl hl.1 rfl (lv_room (Nat.le_of_ble_eq_true rfl)) dX3_compare_9 ⟨by first | exact Nat.le_of_ble_eq_true rfl | omega, by first | exact Nat.le_of_ble_eq_true rfl | omega⟩) hS (by omega) (fun _ _ _ _ _ h => h.elim) (fun locs hq hS => ?_)
    refine x_if_eqB (tgt := 19) hx hb dX3_compare_12 (by decide) (fun c12 => ?_) (fun c12 => ?_)
    · refine lv_iconst (v := nI 0) hx hb dX3_compare_19 (by decide) ?_
      refine x_rw (z := bI false) (by decide) ?_
      refine lv_iconst (v := nI 1) hx hb dX3_compare_20 (by decide) ?_
      refine x_goI (x_runV (As := [.int (bI false), .int (nI 1)]) (rest := []) ⟨hx, hb, hml, hown, hts⟩ hE h0 hS (c_X3_no l G y (nI L.length) th false 1 H0 hO) (cwV 2 hts gX3_compare_X3_no rfl rfl rfl (by decide +kernel) ⟨Nat.le_of_ble_eq_true rfl, Nat.le_of_ble_eq_true rfl⟩) (gO.recv (C := RX3) hK hO rfl) (by omega) rfl rfl hl.1 rfl (lv_room (Nat.le_of_ble_eq_true rfl)) dX3_compare_21 ⟨by first | exact Nat.le_of_ble_eq_true rfl | omega, by first | exact Nat.le_of_ble_eq_true rfl | omega⟩) hS (by omega) (fun _ _ _ _ _ h => h.elim) (fun r6 H5 locs hq hF hS => ?_)
      have hLE := hLE.fr hF (by omega)
      obtain ⟨hr_, hOn⟩ := hq
      refine x_rw (z := bI true) hr_ ?_
      replace hOn : MO G y (nI L.length) (nI 1) H5 := hOn
      have hMT := hMT.setO hF hOn
      have hO := hOn
      refine x_if_eqB (tgt := 31) hx hb dX3_compare_24 (by decide) (fun c24 => ?_) (fun c24 => ?_)
      · exact absurd c24 (by decide)
      · refine lv_iconst (v := nI 0) hx hb dX3_compare_27 (by decide) ?_
        refine lv_goto (tgt := 37) hx hb dX3_compare_28 (by decide) ?_
        exact x_iret hx hb hr hlocks h0 hS (by omega) (by omega) dX3_compare_37 (MR.no n10 (rs1_1 (inB_two (n := 7) (by decide) (by first | exact Or.inl c5 | exact Or.inr c12))) (hMT.WE hLE))
    · refine lv_iconst (v := nI 1) hx hb dX3_compare_15 (by decide) ?_
      refine lv_goto (tgt := 20) hx hb dX3_compare_16 (by decide) ?_
      refine x_rw (z := bI true) (by decide) ?_
      refine lv_iconst (v := nI 1) hx hb dX3_compare_20 (by decide) ?_
      refine x_goI (x_runV (As := [.int (bI true), .int (nI 1)]) (rest := []) ⟨hx, hb, hml, hown, hts⟩ hE h0 hS (c_X3_no l G y (nI L.length) th true 1 H0 hO) (cwV 2 hts gX3_compare_X3_no rfl rfl rfl (by decide +kernel) ⟨Nat.le_of_ble_eq_true rfl, Nat.le_of_ble_eq_true rfl⟩) (gO.recv (C := RX3) hK hO rfl) (by omega) rfl rfl hl.1 rfl (lv_room (Nat.le_of_ble_eq_true rfl)) dX3_compare_21 ⟨by first | exact Nat.le_of_ble_eq_true rfl | omega, by first | exact Nat.le_of_ble_eq_true rfl | omega⟩) hS (by omega) (fun _ _ _ _ _ h => h.elim) (fun r8 H7 locs hq hF hS => ?_)
      have hLE := hLE.fr hF (by omega)
      obtain ⟨hr_, hOn⟩ := hq
      refine x_rw (z := bI false) hr_ ?_
      replace hOn : MO G y (nI L.length) 0 H7 := hOn
      have hMT := hMT.setO hF hOn
      have hO := hOn
      refine x_if_eqB (tgt := 31) hx hb dX3_compare_24 (by decide) (fun c24 => ?_) (fun c24 => ?_)
      · obtain ⟨i, hi, rfl⟩ := (inB_okN (n := 7) (by decide)).mp c5
        obtain ⟨j, hj, rfl⟩ := (inB_okN (n := 7) (by decide)).mp c12
        refine lv_aload_n hx hb dX3_compare_31 rfl (lv_at hl 0 rfl) ?_
        refine lv_iload_n hx hb dX3_compare_32 rfl (lv_at hl 1 rfl) ?_
        refine lv_iload_n hx hb dX3_compare_33 rfl (lv_at hl 2 rfl) ?_
        refine x_goI (x_runV (As := [.int (nI i), .int (nI j)]) (rest := []) ⟨hx, hb, hml, hown, hts⟩ hE h0 hS (c_X3_orderE l G y T L txt tad 0 i j (by omega) (by omega) H7 hMT hLE) (cwV 2 hts gX3_compare_X3_order rfl rfl rfl (by decide +kernel) ⟨Nat.le_of_ble_eq_true rfl, Nat.le_of_ble_eq_true rfl⟩) (gO.recv (C := RX3) hK hO rfl) (by omega) rfl rfl hl.1 rfl (lv_room (Nat.le_of_ble_eq_true rfl)) dX3_compare_34 ⟨by first | exact Nat.le_of_ble_eq_true rfl | omega, by first | exact Nat.le_of_ble_eq_true rfl | omega⟩) hS (by omega) (fun _ _ _ _ _ h => h.elim) (fun r10 H9 locs hq hF hS => ?_)
        have hO := hO.fr hF (by omega)
        have hMT := hMT.fr hF (by omega)
        obtain ⟨rfl, hLE⟩ := hq
        exact x_iret hx hb hr hlocks h0 hS (by omega) (by omega) dX3_compare_37 (MR.ok (rs1_y ⟨⟨i, hi, rfl⟩, j, hj, rfl⟩) (by rw [ix_N (by omega), ix_N (by omega)]) (hMT.WE hLE))
      · exact absurd c24 (by decide)

abbrev RMX3_isSame : Room := { frames := 6, cells := 1, slots := 2, locals := 124 }
set_option maxHeartbeats 4000000 in
set_option maxRecDepth 100000 in
theorem c_X3_isSame (l : Launch) (G : gG) (y : Nat) (L : List Nat) (txt : Nat → List Nat) (th : Int32) (x z : Int32) (H0 : Heap) (hMW : MW G y L txt th H0) : XM l yX3_isSame wsX3_isSame RMX3_isSame G [.ref y, .int x, .int z] H0 y (y + 34) 1 2 (qI (fun r H1 => MR G y (rs1 (okN 8 x ∧ okN 8 z)) (r = bI (decide (ordr (txt (ix x)) (txt (ix z)) = 0))) L L txt txt H1)) xN := by
  refine x_ofW (cc := cX3_isSame) (maxL := 3) (ret := (some .boolean)) (by decide) rfl (Nat.le_of_ble_eq_true rfl) ?_
  intro p e s m below meth c hx hb hr hml hown hts hlocks hout hin2 h0 hE ls hl
  replace hown : s.vm.findClass RX3 = some m.cls := hown
  have hK := hE.1
  have hS : va_S (gA y (y + 34) H0.size) H0 H0 [] := va_S.rf
  generalize hargs : ([.ref y, .int x, .int z] : List Value).toArray = args at hts ⊢
  have hl : lv_has ls 3 [(0, .ref y), (1, .int x), (2, .int z)] := hl
  obtain ⟨tad, w, hMT, hLA⟩ := hMW
  generalize hTe : H0.size = T at hMT
  obtain ⟨hO, hTd, ⟨f2, hf2, hf2b⟩, ⟨f11, hf11, hf11b⟩, htx, hLd, hyT, hTs⟩ := id hMT
  have hTd0 := hTd
  obtain ⟨fd, hD, hDf, hDn, hDc⟩ := hTd
  have hTe2 : T = H0.size := hTe.symm
  have hLE : LE G y H0 := ⟨w, hLA⟩
  refine lv_aload_n hx hb dX3_isSame_0 rfl (lv_at hl 0 rfl) ?_
  refine lv_iload_n hx hb dX3_isSame_1 rfl (lv_at hl 1 rfl) ?_
  refine x_goI_ro (x_runS (As := [.int x]) (rest := [.ref y]) ⟨hx, hb, hml, hown, hts⟩ hE h0 hS (c_X3_isSlot l G x H0) (va_cwS 1 hts gX3_isSame_X3_isSlot rfl rfl rfl (by decide +kernel) ⟨Nat.le_of_ble_eq_true rfl, Nat.le_of_ble_eq_true rfl⟩) (by omega) rfl rfl hl.1 rfl (lv_room (Nat.le_of_ble_eq_true rfl)) dX3_isSame_2 ⟨by first | exact Nat.le_of_ble_eq_true rfl | omega, by first | exact Nat.le_of_ble_eq_true rfl | omega⟩) hS (by omega) (fun _ _ _ _ _ h => h.elim) (fun locs hq hS => ?_)
  refine x_if_eqB (tgt := 19) hx hb dX3_isSame_5 (by decide) (fun c5 => ?_) (fun c5 => ?_)
  · refine lv_iconst (v := nI 0) hx hb dX3_isSame_19 (by decide) ?_
    refine x_rw (z := bI false) (by decide) ?_
    refine lv_iconst (v := nI 1) hx hb dX3_isSame_20 (by decide) ?_
    refine x_goI (x_runV (As := [.int (bI false), .int (nI 1)]) (rest := []) ⟨hx, hb, hml, hown, hts⟩ hE h0 hS (c_X3_no l G y (nI L.length) th false 1 H0 hO) (cwV 2 hts gX3_isSame_X3_no rfl rfl rfl (by decide +kernel) ⟨Nat.le_of_ble_eq_true rfl, Nat.le_of_ble_eq_true rfl⟩) (gO.recv (C := RX3) hK hO rfl) (by omega) rfl rfl hl.1 rfl (lv_room (Nat.le_of_ble_eq_true rfl)) dX3_isSame_21 ⟨by first | exact Nat.le_of_ble_eq_true rfl | omega, by first | exact Nat.le_of_ble_eq_true rfl | omega⟩) hS (by omega) (fun _ _ _ _ _ h => h.elim) (fun r3 H2 locs hq hF hS => ?_)
    have hLE := hLE.fr hF (by omega)
    obtain ⟨hr_, hOn⟩ := hq
    refine x_rw (z := bI true) hr_ ?_
    replace hOn : MO G y (nI L.length) (nI 1) H2 := hOn
    have hMT := hMT.setO hF hOn
    have hO := hOn
    refine x_if_neB (tgt := 40) hx hb dX3_isSame_24 (by decide) (fun c24 => ?_) (fun c24 => ?_)
    · refine lv_iconst (v := nI 0) hx hb dX3_isSame_40 (by decide) ?_
      exact x_zret hx hb hr hlocks h0 hS (by omega) (by omega) dX3_isSame_41 (by first | rfl | exact bI_nar _) (MR.no n10 (rs1_1 (inB_two (n := 7) (by decide) (by first | exact Or.inl c5 | exact Or.inr c12))) (hMT.WE hLE))
    · exact absurd c24 (by decide)
  · refine lv_iload_n hx hb dX3_isSame_8 rfl (lv_at hl 2 rfl) ?_
    refine x_goI_ro (x_runS (As := [.int z]) (rest := [.ref y]) ⟨hx, hb, hml, hown, hts⟩ hE h0 hS (c_X3_isSlot l G z H0) (va_cwS 1 hts gX3_isSame_X3_isSlot rfl rfl rfl (by decide +kernel) ⟨Nat.le_of_ble_eq_true rfl, Nat.le_of_ble_eq_true rfl⟩) (by omega) rfl rfl hl.1 rfl (lv_room (Nat.le_of_ble_eq_true rfl)) dX3_isSame_9 ⟨by first | exact Nat.le_of_ble_eq_true rfl | omega, by first | exact Nat.le_of_ble_eq_true rfl | omega⟩) hS (by omega) (fun _ _ _ _ _ h => h.elim) (fun locs hq hS => ?_)
    refine x_if_eqB (tgt := 19) hx hb dX3_isSame_12 (by decide) (fun c12 => ?_) (fun c12 => ?_)
    · refine lv_iconst (v := nI 0) hx hb dX3_isSame_19 (by decide) ?_
      refine x_rw (z := bI false) (by decide) ?_
      refine lv_iconst (v := nI 1) hx hb dX3_isSame_20 (by decide) ?_
      refine x_goI (x_runV (As := [.int (bI false), .int (nI 1)]) (rest := []) ⟨hx, hb, hml, hown, hts⟩ hE h0 hS (c_X3_no l G y (nI L.length) th false 1 H0 hO) (cwV 2 hts gX3_isSame_X3_no rfl rfl rfl (by decide +kernel) ⟨Nat.le_of_ble_eq_true rfl, Nat.le_of_ble_eq_true rfl⟩) (gO.recv (C := RX3) hK hO rfl) (by omega) rfl rfl hl.1 rfl (lv_room (Nat.le_of_ble_eq_true rfl)) dX3_isSame_21 ⟨by first | exact Nat.le_of_ble_eq_true rfl | omega, by first | exact Nat.le_of_ble_eq_true rfl | omega⟩) hS (by omega) (fun _ _ _ _ _ h => h.elim) (fun r6 H5 locs hq hF hS => ?_)
      have hLE := hLE.fr hF (by omega)
      obtain ⟨hr_, hOn⟩ := hq
      refine x_rw (z := bI true) hr_ ?_
      replace hOn : MO G y (nI L.length) (nI 1) H5 := hOn
      have hMT := hMT.setO hF hOn
      have hO := hOn
      refine x_if_neB (tgt := 40) hx hb dX3_isSame_24 (by decide) (fun c24 => ?_) (fun c24 => ?_)
      · refine lv_iconst (v := nI 0) hx hb dX3_isSame_40 (by decide) ?_
        exact x_zret hx hb hr hlocks h0 hS (by omega) (by omega) dX3_isSame_41 (by first | rfl | exact bI_nar _) (MR.no n10 (rs1_1 (inB_two (n := 7) (by decide) (by first | exact Or.inl c5 | exact Or.inr c12))) (hMT.WE hLE))
      · exact absurd c24 (by decide)
    · refine lv_iconst (v := nI 1) hx hb dX3_isSame_15 (by decide) ?_
      refine lv_goto (tgt := 20) hx hb dX3_isSame_16 (by decide) ?_
      refine x_rw (z := bI true) (by decide) ?_
      refine lv_iconst (v := nI 1) hx hb dX3_isSame_20 (by decide) ?_
      refine x_goI (x_runV (As := [.int (bI true), .int (nI 1)]) (rest := []) ⟨hx, hb, hml, hown, hts⟩ hE h0 hS (c_X3_no l G y (nI L.length) th true 1 H0 hO) (cwV 2 hts gX3_isSame_X3_no rfl rfl rfl (by decide +kernel) ⟨Nat.le_of_ble_eq_true rfl, Nat.le_of_ble_eq_true rfl⟩) (gO.recv (C := RX3) hK hO rfl) (by omega) rfl rfl hl.1 rfl (lv_room (Nat.le_of_ble_eq_true rfl)) dX3_isSame_21 ⟨by first | exact Nat.le_of_ble_eq_true rfl | omega, by first | exact Nat.le_of_ble_eq_true rfl | omega⟩) hS (by omega) (fun _ _ _ _ _ h => h.elim) (fun r8 H7 locs hq hF hS => ?_)
      have hLE := hLE.fr hF (by omega)
      obtain ⟨hr_, hOn⟩ := hq
      refine x_rw (z := bI false) hr_ ?_
      replace hOn : MO G y (nI L.length) 0 H7 := hOn
      have hMT := hMT.setO hF hOn
      have hO := hOn
      refine x_if_neB (tgt := 40) hx hb dX3_isSame_24 (by decide) (fun c24 => ?_) (fun c24 => ?_)
      · exact absurd c24 (by decide)
      · obtain ⟨i, hi, rfl⟩ := (inB_okN (n := 7) (by decide)).mp c5
        obtain ⟨j, hj, rfl⟩ := (inB_okN (n := 7) (by decide)).mp c12
        refine lv_aload_n hx hb dX3_isSame_27 rfl (lv_at hl 0 rfl) ?_
        refine lv_iload_n hx hb dX3_isSame_28 rfl (lv_at hl 1 rfl) ?_
        refine lv_iload_n hx hb dX3_isSame_29 rfl (lv_at hl 2 rfl) ?_
        refine x_goI (x_runV (As := [.int (nI i), .int (nI j)]) (rest := []) ⟨hx, hb, hml, hown, hts⟩ hE h0 hS (c_X3_orderE l G y T L txt tad 0 i j (by omega) (by omega) H7 hMT hLE) (cwV 2 hts gX3_isSame_X3_order rfl rfl rfl (by decide +kernel) ⟨Nat.le_of_ble_eq_true rfl, Nat.le_of_ble_eq_true rfl⟩) (gO.recv (C := RX3) hK hO rfl) (by omega) rfl rfl hl.1 rfl (lv_room (Nat.le_of_ble_eq_true rfl)) dX3_isSame_30 ⟨by first | exact Nat.le_of_ble_eq_true rfl | omega, by first | exact Nat.le_of_ble_eq_true rfl | omega⟩) hS (by omega) (fun _ _ _ _ _ h => h.elim) (fun r10 H9 locs hq hF hS => ?_)
        have hO := hO.fr hF (by omega)
        have hMT := hMT.fr hF (by omega)
        obtain ⟨rfl, hLE⟩ := hq
        refine lv_if_ne (tgt := 40) hx hb dX3_isSame_33 (by decide) (fun c33 => ?_) (fun c33 => ?_)
        · refine lv_iconst (v := nI 0) hx hb dX3_isSame_40 (by decide) ?_
          exact x_zret hx hb hr hlocks h0 hS (by omega) (by omega) dX3_isSame_41 (by first | rfl | exact bI_nar _) (MR.ok (rs1_y ⟨⟨i, hi, rfl⟩, j, hj, rfl⟩) (by rw [ix_N (by omega), ix_N (by omega), decide_eq_false c33]; rfl) (hMT.WE hLE))
        · refine lv_iconst (v := nI 1) hx hb dX3_isSame_36 (by decide) ?_
          refine lv_goto (tgt := 41) hx hb dX3_isSame_37 (by decide) ?_
          exact x_zret hx hb hr hlocks h0 hS (by omega) (by omega) dX3_isSame_41 (by first | rfl | exact bI_nar _) (MR.ok (rs1_y ⟨⟨i, hi, rfl⟩, j, hj, rfl⟩) (by rw [ix_N (by omega), ix_N (by omega), decide_eq_true c33]; rfl) (hMT.WE hLE))

abbrev RMX3_apart : Room := { frames := 5, cells := 1, slots := 2, locals := 102 }
set_option maxHeartbeats 4000000 in
set_option maxRecDepth 100000 in
theorem c_X3_apart (l : Launch) (G : gG) (y : Nat) (L : List Nat) (txt : Nat → List Nat) (th : Int32) (x z : Int32) (H0 : Heap) (hMW : MW G y L txt th H0) : XM l yX3_apart wsX3_apart RMX3_apart G [.ref y, .int x, .int z] H0 y (y + 34) 1 2 (qI (fun r H1 => MR G y (rs1 (okN 8 x ∧ okN 8 z)) (r = tellr (txt (ix x)) (txt (ix z))) L L txt txt H1)) xN := by
  refine x_ofW (cc := cX3_apart) (maxL := 3) (ret := (some .int)) (by decide) rfl (Nat.le_of_ble_eq_true rfl) ?_
  intro p e s m below meth c hx hb hr hml hown hts hlocks hout hin2 h0 hE ls hl
  replace hown : s.vm.findClass RX3 = some m.cls := hown
  have hK := hE.1
  have hS : va_S (gA y (y + 34) H0.size) H0 H0 [] := va_S.rf
  generalize hargs : ([.ref y, .int x, .int z] : List Value).toArray = args at hts ⊢
  have hl : lv_has ls 3 [(0, .ref y), (1, .int x), (2, .int z)] := hl
  obtain ⟨tad, w, hMT, hLA⟩ := hMW
  generalize hTe : H0.size = T at hMT
  obtain ⟨hO, hTd, ⟨f2, hf2, hf2b⟩, ⟨f11, hf11, hf11b⟩, htx, hLd, hyT, hTs⟩ := id hMT
  have hTd0 := hTd
  obtain ⟨fd, hD, hDf, hDn, hDc⟩ := hTd
  have hTe2 : T = H0.size := hTe.symm
  refine lv_aload_n hx hb dX3_apart_0 rfl (lv_at hl 0 rfl) ?_
  refine lv_iload_n hx hb dX3_apart_1 rfl (lv_at hl 1 rfl) ?_
  refine x_goI_ro (x_runS (As := [.int x]) (rest := [.ref y]) ⟨hx, hb, hml, hown, hts⟩ hE h0 hS (c_X3_isSlot l G x H0) (va_cwS 1 hts gX3_apart_X3_isSlot rfl rfl rfl (by decide +kernel) ⟨Nat.le_of_ble_eq_true rfl, Nat.le_of_ble_eq_true rfl⟩) (by omega) rfl rfl hl.1 rfl (lv_room (Nat.le_of_ble_eq_true rfl)) dX3_apart_2 ⟨by first | exact Nat.le_of_ble_eq_true rfl | omega, by first | exact Nat.le_of_ble_eq_true rfl | omega⟩) hS (by omega) (fun _ _ _ _ _ h => h.elim) (fun locs hq hS => ?_)
  refine x_if_eqB (tgt := 19) hx hb dX3_apart_5 (by decide) (fun c5 => ?_) (fun c5 => ?_)
  · refine lv_iconst (v := nI 0) hx hb dX3_apart_19 (by decide) ?_
    refine x_rw (z := bI false) (by decide) ?_
    refine lv_iconst (v := nI 1) hx hb dX3_apart_20 (by decide) ?_
    refine x_goI (x_runV (As := [.int (bI false), .int (nI 1)]) (rest := []) ⟨hx, hb, hml, hown, hts⟩ hE h0 hS (c_X3_no l G y (nI L.length) th false 1 H0 hO) (cwV 2 hts gX3_apart_X3_no rfl rfl rfl (by decide +kernel) ⟨Nat.le_of_ble_eq_true rfl, Nat.le_of_ble_eq_true rfl⟩) (gO.recv (C := RX3) hK hO rfl) (by omega) rfl rfl hl.1 rfl (lv_room (Nat.le_of_ble_eq_true rfl)) dX3_apart_21 ⟨by first | exact Nat.le_of_ble_eq_true rfl | omega, by first | exact Nat.le_of_ble_eq_true rfl | omega⟩) hS (by omega) (fun _ _ _ _ _ h => h.elim) (fun r3 H2 locs hq hF hS => ?_)
    have hLA := hLA.fr hF (by omega)
    obtain ⟨hr_, hOn⟩ := hq
    refine x_rw (z := bI true) hr_ ?_
    replace hOn : MO G y (nI L.length) (nI 1) H2 := hOn
    have hMT := hMT.setO hF hOn
    have hO := hOn
    refine x_if_eqB (tgt := 29) hx hb dX3_apart_24 (by decide) (fun c24 => ?_) (fun c24 => ?_)
    · exact absurd c24 (by decide)
    · refine lv_iconst (v := nI 0) hx hb dX3_apart_27 (by decide) ?_
      exact x_iret hx hb hr hlocks h0 hS (by omega) (by omega) dX3_apart_28 (MR.no n10 (rs1_1 (inB_two (n := 7) (by decide) (by first | exact Or.inl c5 | exact Or.inr c12))) (hMT.W hLA))
  · refine lv_iload_n hx hb dX3_apart_8 rfl (lv_at hl 2 rfl) ?_
    refine x_goI_ro (x_runS (As := [.int z]) (rest := [.ref y]) ⟨hx, hb, hml, hown, hts⟩ hE h0 hS (c_X3_isSlot l G z H0) (va_cwS 1 hts gX3_apart_X3_isSlot rfl rfl rfl (by decide +kernel) ⟨Nat.le_of_ble_eq_true rfl, Nat.le_of_ble_eq_true rfl⟩) (by omega) rfl rfl hl.1 rfl (lv_room (Nat.le_of_ble_eq_true rfl)) dX3_apart_9 ⟨by first | exact Nat.le_of_ble_eq_true rfl | omega, by first | exact Nat.le_of_ble_eq_true rfl | omega⟩) hS (by omega) (fun _ _ _ _ _ h => h.elim) (fun locs hq hS => ?_)
    refine x_if_eqB (tgt := 19) hx hb dX3_apart_12 (by decide) (fun c12 => ?_) (fun c12 => ?_)
    · refine lv_iconst (v := nI 0) hx hb dX3_apart_19 (by decide) ?_
      refine x_rw (z := bI false) (by decide) ?_
      refine lv_iconst (v := nI 1) hx hb dX3_apart_20 (by decide) ?_
      refine x_goI (x_runV (As := [.int (bI false), .int (nI 1)]) (rest := []) ⟨hx, hb, hml, hown, hts⟩ hE h0 hS (c_X3_no l G y (nI L.length) th false 1 H0 hO) (cwV 2 hts gX3_apart_X3_no rfl rfl rfl (by decide +kernel) ⟨Nat.le_of_ble_eq_true rfl, Nat.le_of_ble_eq_true rfl⟩) (gO.recv (C := RX3) hK hO rfl) (by omega) rfl rfl hl.1 rfl (lv_room (Nat.le_of_ble_eq_true rfl)) dX3_apart_21 ⟨by first | exact Nat.le_of_ble_eq_true rfl | omega, by first | exact Nat.le_of_ble_eq_true rfl | omega⟩) hS (by omega) (fun _ _ _ _ _ h => h.elim) (fun r6 H5 locs hq hF hS => ?_)
      have hLA := hLA.fr hF (by omega)
      obtain ⟨hr_, hOn⟩ := hq
      refine x_rw (z := bI true) hr_ ?_
      replace hOn : MO G y (nI L.length) (nI 1) H5 := hOn
      have hMT := hMT.setO hF hOn
      have hO := hOn
      refine x_if_eqB (tgt := 29) hx hb dX3_apart_24 (by decide) (fun c24 => ?_) (fun c24 => ?_)
      · exact absurd c24 (by decide)
      · refine lv_iconst (v := nI 0) hx hb dX3_apart_27 (by decide) ?_
        exact x_iret hx hb hr hlocks h0 hS (by omega) (by omega) dX3_apart_28 (MR.no n10 (rs1_1 (inB_two (n := 7) (by decide) (by first | exact Or.inl c5 | exact Or.inr c12))) (hMT.W hLA))
    · refine lv_iconst (v := nI 1) hx hb dX3_apart_15 (by decide) ?_
      refine lv_goto (tgt := 20) hx hb dX3_apart_16 (by decide) ?_
      refine x_rw (z := bI true) (by decide) ?_
      refine lv_iconst (v := nI 1) hx hb dX3_apart_20 (by decide) ?_
      refine x_goI (x_runV (As := [.int (bI true), .int (nI 1)]) (rest := []) ⟨hx, hb, hml, hown, hts⟩ hE h0 hS (c_X3_no l G y (nI L.length) th true 1 H0 hO) (cwV 2 hts gX3_apart_X3_no rfl rfl rfl (by decide +kernel) ⟨Nat.le_of_ble_eq_true rfl, Nat.le_of_ble_eq_true rfl⟩) (gO.recv (C := RX3) hK hO rfl) (by omega) rfl rfl hl.1 rfl (lv_room (Nat.le_of_ble_eq_true rfl)) dX3_apart_21 ⟨by first | exact Nat.le_of_ble_eq_true rfl | omega, by first | exact Nat.le_of_ble_eq_true rfl | omega⟩) hS (by omega) (fun _ _ _ _ _ h => h.elim) (fun r8 H7 locs hq hF hS => ?_)
      have hLA := hLA.fr hF (by omega)
      obtain ⟨hr_, hOn⟩ := hq
      refine x_rw (z := bI false) hr_ ?_
      replace hOn : MO G y (nI L.length) 0 H7 := hOn
      have hMT := hMT.setO hF hOn
      have hO := hOn
      refine x_if_eqB (tgt := 29) hx hb dX3_apart_24 (by decide) (fun c24 => ?_) (fun c24 => ?_)
      · obtain ⟨i, hi, rfl⟩ := (inB_okN (n := 7) (by decide)).mp c5
        obtain ⟨j, hj, rfl⟩ := (inB_okN (n := 7) (by decide)).mp c12
        refine lv_aload_n hx hb dX3_apart_29 rfl (lv_at hl 0 rfl) ?_
        refine lv_iconst (v := nI 0) hx hb dX3_apart_30 (by decide) ?_
        refine lv_iload_n hx hb dX3_apart_31 rfl (lv_at hl 1 rfl) ?_
        refine x_goV (x_runV (As := [.int (nI 0), .int (nI i)]) (rest := []) ⟨hx, hb, hml, hown, hts⟩ hE h0 hS (c_X3_look_ l G y T L txt tad 0 w 0 (by decide) i (by omega) H7 hMT hLA) (cwV 2 hts gX3_apart_X3_look_ rfl rfl rfl (by decide +kernel) ⟨Nat.le_of_ble_eq_true rfl, Nat.le_of_ble_eq_true rfl⟩) (gO.recv (C := RX3) hK hO rfl) (by omega) rfl rfl hl.1 rfl (lv_room (Nat.le_of_ble_eq_true rfl)) dX3_apart_32 ⟨by first | exact Nat.le_of_ble_eq_true rfl | omega, by first | exact Nat.le_of_ble_eq_true rfl | omega⟩) hS (by omega) (fun _ _ _ _ _ h => h.elim) (fun  H9 locs hq hF hS => ?_)
        have hO := hO.fr hF (by omega)
        have hMT := hMT.fr hF (by omega)
        have hLA := hq
        refine lv_aload_n hx hb dX3_apart_35 rfl (lv_at hl 0 rfl) ?_
        refine lv_iconst (v := nI 1) hx hb dX3_apart_36 (by decide) ?_
        refine lv_iload_n hx hb dX3_apart_37 rfl (lv_at hl 2 rfl) ?_
        refine x_goV (x_runV (As := [.int (nI 1), .int (nI j)]) (rest := []) ⟨hx, hb, hml, hown, hts⟩ hE h0 hS (c_X3_look_ l G y T L txt tad 0 (wset w 0 (tad i, tk (txt i))) 1 (by decide) j (by omega) H9 hMT hLA) (cwV 2 hts gX3_apart_X3_look_ rfl rfl rfl (by decide +kernel) ⟨Nat.le_of_ble_eq_true rfl, Nat.le_of_ble_eq_true rfl⟩) (gO.recv (C := RX3) hK hO rfl) (by omega) rfl rfl hl.1 rfl (lv_room (Nat.le_of_ble_eq_true rfl)) dX3_apart_38 ⟨by first | exact Nat.le_of_ble_eq_true rfl | omega, by first | exact Nat.le_of_ble_eq_true rfl | omega⟩) hS (by omega) (fun _ _ _ _ _ h => h.elim) (fun  H10 locs hq hF hS => ?_)
        have hO := hO.fr hF (by omega)
        have hMT := hMT.fr hF (by omega)
        have hLA := hq
        refine lv_aload_n hx hb dX3_apart_41 rfl (lv_at hl 0 rfl) ?_
        refine x_goR (x_runV (As := []) (rest := []) ⟨hx, hb, hml, hown, hts⟩ hE h0 hS (c_X3_judged l G y (nI L.length) 0 (wset (wset w 0 (tad i, tk (txt i))) 1 (tad j, tk (txt j))) (tad i) (tad j) (txt i) (txt j) (by rw [wset_ne (by decide)]; exact wset_self) wset_self (hMT.gt (by omega)).J (hMT.gt (by omega)).J H10 hO hLA (hMT.tx (by omega)) (hMT.tx (by omega))) (cwV 0 hts gX3_apart_X3_judged rfl rfl rfl (by decide +kernel) ⟨Nat.le_of_ble_eq_true rfl, Nat.le_of_ble_eq_true rfl⟩) (gO.recv (C := RX3) hK hO rfl) (by omega) rfl rfl hl.1 rfl (lv_room (Nat.le_of_ble_eq_true rfl)) dX3_apart_42 ⟨by first | exact Nat.le_of_ble_eq_true rfl | omega, by first | exact Nat.le_of_ble_eq_true rfl | omega⟩) hS (by omega) (fun _ _ _ _ _ h => h.elim) (fun r12 H11 locs hq hF hS => ?_)
        have hO := hO.fr hF (by omega)
        have hMT := hMT.fr hF (by omega)
        have hLA := hLA.fr hF (by omega)
        obtain ⟨hr0, fr_, hfr, hfr0, hfr1⟩ := hq
        refine lv_iconst (v := nI 1) hx hb dX3_apart_45 (by decide) ?_
        refine x_iald hx hb hK hfr (by omega) (by decide) dX3_apart_46 ?_
        refine x_rw (z := (tellr (txt i) (txt j))) hfr1 ?_
        exact x_iret hx hb hr hlocks h0 hS (by omega) (by omega) dX3_apart_47 (MR.ok (rs1_y ⟨⟨i, hi, rfl⟩, j, hj, rfl⟩) (by rw [ix_N (by omega), ix_N (by omega)]) (hMT.W hLA))
      · exact absurd c24 (by decide)

abbrev RMX3_rank : Room := { frames := 6, cells := 8, slots := 16, locals := 124 }
set_option maxHeartbeats 4000000 in
set_option maxRecDepth 100000 in
theorem c_X3_rank (l : Launch) (G : gG) (y : Nat) (L : List Nat) (txt : Nat → List Nat) (th : Int32) (x : Int32) (H0 : Heap) (hMW : MW G y L txt th H0) : XM l yX3_rank wsX3_rank RMX3_rank G [.ref y, .int x] H0 y (y + 34) 8 16 (qI (fun r H1 => MR G y (rs1 (okN 8 x)) (r = nI (cntB (fun q => decide (ordr (txt q) (txt (ix x)) < 0)) 8)) L L txt txt H1)) xN := by
  refine x_ofW (cc := cX3_rank) (maxL := 4) (ret := (some .int)) (by decide) rfl (Nat.le_of_ble_eq_true rfl) ?_
  intro p e s m below meth c hx hb hr hml hown hts hlocks hout hin2 h0 hE ls hl
  replace hown : s.vm.findClass RX3 = some m.cls := hown
  have hK := hE.1
  have hS : va_S (gA y (y + 34) H0.size) H0 H0 [] := va_S.rf
  generalize hargs : ([.ref y, .int x] : List Value).toArray = args at hts ⊢
  have hl : lv_has ls 4 [(0, .ref y), (1, .int x)] := hl
  obtain ⟨tad, w, hMT, hLA⟩ := hMW
  generalize hTe : H0.size = T at hMT
  obtain ⟨hO, hTd, ⟨f2, hf2, hf2b⟩, ⟨f11, hf11, hf11b⟩, htx, hLd, hyT, hTs⟩ := id hMT
  have hTd0 := hTd
  obtain ⟨fd, hD, hDf, hDn, hDc⟩ := hTd
  have hTe2 : T = H0.size := hTe.symm
  have hLE : LE G y H0 := ⟨w, hLA⟩
  refine lv_aload_n hx hb dX3_rank_0 rfl (lv_at hl 0 rfl) ?_
  refine lv_iload_n hx hb dX3_rank_1 rfl (lv_at hl 1 rfl) ?_
  refine x_goI_ro (x_runS (As := [.int x]) (rest := [.ref y]) ⟨hx, hb, hml, hown, hts⟩ hE h0 hS (c_X3_isSlot l G x H0) (va_cwS 1 hts gX3_rank_X3_isSlot rfl rfl rfl (by decide +kernel) ⟨Nat.le_of_ble_eq_true rfl, Nat.le_of_ble_eq_true rfl⟩) (by omega) rfl rfl hl.1 rfl (lv_room (Nat.le_of_ble_eq_true rfl)) dX3_rank_2 ⟨by first | exact Nat.le_of_ble_eq_true rfl | omega, by first | exact Nat.le_of_ble_eq_true rfl | omega⟩) hS (by omega) (fun _ _ _ _ _ h => h.elim) (fun locs hq hS => ?_)
  rcases Bool.eq_false_or_eq_true (inB x (nI 0) (nI 7)) with hs | hs
  · refine x_rw (z := bI true) (congrArg bI hs) ?_
    refine lv_iconst (v := nI 1) hx hb dX3_rank_5 (by decide) ?_
    refine x_goI (x_runV (As := [.int (bI true), .int (nI 1)]) (rest := []) ⟨hx, hb, hml, hown, hts⟩ hE h0 hS (c_X3_no l G y (nI L.length) th true 1 H0 hO) (cwV 2 hts gX3_rank_X3_no rfl rfl rfl (by decide +kernel) ⟨Nat.le_of_ble_eq_true rfl, Nat.le_of_ble_eq_true rfl⟩) (gO.recv (C := RX3) hK hO rfl) (by omega) rfl rfl hl.1 rfl (lv_room (Nat.le_of_ble_eq_true rfl)) dX3_rank_6 ⟨by first | exact Nat.le_of_ble_eq_true rfl | omega, by first | exact Nat.le_of_ble_eq_true rfl | omega⟩) hS (by omega) (fun _ _ _ _ _ h => h.elim) (fun r3 H2 locs hq hF hS => ?_)
    have hLE := hLE.fr hF (by omega)
    obtain ⟨hr_, hOn⟩ := hq
    refine x_rw (z := bI false) hr_ ?_
    replace hOn : MO G y (nI L.length) 0 H2 := hOn
    have hMT := hMT.setO hF hOn
    have hO := hOn
    refine x_if_eqB (tgt := 14) hx hb dX3_rank_9 (by decide) (fun c9 => ?_) (fun c9 => ?_)
    · obtain ⟨i, hi, rfl⟩ := (inB_okN (n := 7) (by decide)).mp hs
      refine lv_iconst (v := nI 0) hx hb dX3_rank_14 (by decide) ?_
      refine lv_istore_n (lv' := [(2, .int (nI 0)), (0, .ref y), (1, .int (nI i))]) hx hb dX3_rank_15 rfl hl (by decide) rfl (fun ls hl => ?_)
      refine lv_iconst (v := nI 0) hx hb dX3_rank_16 (by decide) ?_
      refine lv_istore_n (lv' := [(3, .int (nI 0)), (2, .int (nI 0)), (0, .ref y), (1, .int (nI i))]) hx hb dX3_rank_17 rfl hl (by decide) rfl (fun ls hl => ?_)
      have loop18 : ∀ (fu : Nat) (k j : Nat) (cs ss : Nat) (hk : k = cntB (fun q => decide (ordr (txt q) (txt i) < 0)) j) (hj : j ≤ 8) (hcs : cs ≤ j) (hss : ss ≤ 2 * j) (H : Heap) (locs : List Loc) (hS : va_S (gA y (y + 34) H0.size) H0 H locs) (hO : gO G y 3 [.ref (y + 1), .int (nI L.length), .ref (y + 2), .ref (y + 11), .ref (y + 12), .ref (y + 13), .ref (y + 16), .ref (y + 25), .int 0] H) (hMT : MT G y T L txt tad 0 H) (hLE : LE G y H) (ls : Array Slot), 8 - j < fu → lv_has ls 4 [(3, .int (nI j)), (2, .int (nI k)), (1, .int (nI i)), (0, .ref y)] → W p l e RMX3_rank s m args below meth c H locs cs ss (XQ below args s H0 y (y + 34) 8 16 (qI (fun r H1 => MR G y (rs1 (okN 8 (nI i))) (r = nI (cntB (fun q => decide (ordr (txt q) (txt (ix (nI i))) < 0)) 8)) L L txt txt H1)) xN) (F0 m 18 ls []) := by
        intro fu18
        induction fu18 with
        | zero => intro k j cs ss hk hj hcs hss H locs hS hO hMT hLE ls hmu; exact absurd hmu (Nat.not_lt_zero _)
        | succ fu18 ih18 =>
          intro k j cs ss hk hj hcs hss H locs hS hO hMT hLE ls hmu18 hl
          refine lv_iload_n hx hb dX3_rank_18 rfl (lv_at hl 0 rfl) ?_
          refine lv_bipush (v := nI 8) hx hb dX3_rank_19 (by decide) ?_
          refine x_icmp_ge (tgt := 47) hx hb (by omega) (by omega) dX3_rank_21 (by decide) (fun c21 => ?_) (fun c21 => ?_)
          · refine lv_iload_n hx hb dX3_rank_47 rfl (lv_at hl 1 rfl) ?_
            exact x_iret hx hb hr hlocks h0 hS (by omega) (by omega) dX3_rank_48 (MR.ok (rs1_y ⟨i, hi, rfl⟩) (by rw [ix_N (by omega), hk, show j = 8 by omega]) (hMT.WE hLE))
          · refine lv_iload_n hx hb dX3_rank_24 rfl (lv_at hl 1 rfl) ?_
            refine lv_aload_n hx hb dX3_rank_25 rfl (lv_at hl 3 rfl) ?_
            refine lv_iload_n hx hb dX3_rank_26 rfl (lv_at hl 0 rfl) ?_
            refine lv_iload_n hx hb dX3_rank_27 rfl (lv_at hl 2 rfl) ?_
            refine x_goI (x_runV (As := [.int (nI j), .int (nI i)]) (rest := [.int (nI k)]) ⟨hx, hb, hml, hown, hts⟩ hE h0 hS (c_X3_orderE l G y T L txt tad 0 j i (by omega) (by omega) H hMT hLE) (cwV 2 hts gX3_rank_X3_order rfl rfl rfl (by decide +kernel) ⟨Nat.le_of_ble_eq_true rfl, Nat.le_of_ble_eq_true rfl⟩) (gO.recv (C := RX3) hK hO rfl) (by omega) rfl rfl hl.1 rfl (lv_room (Nat.le_of_ble_eq_true rfl)) dX3_rank_28 ⟨Nat.le_trans (m := 8) (by omega) (Nat.le_of_ble_eq_true rfl), Nat.le_trans (m := 16) (by omega) (Nat.le_of_ble_eq_true rfl)⟩) hS (by omega) (fun _ _ _ _ _ h => h.elim) (fun r5 H4 locs hq hF hS => ?_)
            have hO := hO.fr hF (by omega)
            have hMT := hMT.fr hF (by omega)
            obtain ⟨rfl, hLE⟩ := hq
            refine lv_if_ge (tgt := 38) hx hb dX3_rank_31 (by decide) (fun c31 => ?_) (fun c31 => ?_)
            · have hk2 : k = cntB (fun q => decide (ordr (txt q) (txt i) < 0)) (j + 1) := by rw [cntB_f (by exact decide_eq_false (Int32.not_lt.mpr c31))]; exact hk
              refine lv_iconst (v := nI 0) hx hb dX3_rank_38 (by decide) ?_
              refine lv_iadd hx hb dX3_rank_39 ?_
              refine x_rw (z := nI (k + 0)) (nI_add _ _) ?_
              refine lv_istore_n (lv' := [(2, .int (nI (k + 0))), (3, .int (nI j)), (1, .int (nI i)), (0, .ref y)]) hx hb dX3_rank_40 rfl hl (by decide) rfl (fun ls hl => ?_)
              refine lv_iinc (v := nI (j + 1)) (lv' := [(3, .int (nI (j + 1))), (2, .int (nI (k + 0))), (1, .int (nI i)), (0, .ref y)]) hx hb dX3_rank_41 hl (k := 1) rfl (nI_1 _) (by decide) rfl (fun ls hl => ?_)
              refine lv_goto (tgt := 18) hx hb dX3_rank_44 (by decide) ?_
              exact ih18 (k + 0) (j + 1) (cs + 1) (ss + 2) hk2 (by omega) (by omega) (by omega) H4 _ hS hO hMT hLE ls (by omega) (lv_sub hl [0, 1, 2, 3] rfl)
            · have hk2 : k + 1 = cntB (fun q => decide (ordr (txt q) (txt i) < 0)) (j + 1) := by rw [cntB_t (by exact decide_eq_true (Int32.not_le.mp c31))]; rw [hk]
              refine lv_iconst (v := nI 1) hx hb dX3_rank_34 (by decide) ?_
              refine lv_goto (tgt := 39) hx hb dX3_rank_35 (by decide) ?_
              refine lv_iadd hx hb dX3_rank_39 ?_
              refine x_rw (z := nI (k + 1)) (nI_add _ _) ?_
              refine lv_istore_n (lv' := [(2, .int (nI (k + 1))), (3, .int (nI j)), (1, .int (nI i)), (0, .ref y)]) hx hb dX3_rank_40 rfl hl (by decide) rfl (fun ls hl => ?_)
              refine lv_iinc (v := nI (j + 1)) (lv' := [(3, .int (nI (j + 1))), (2, .int (nI (k + 1))), (1, .int (nI i)), (0, .ref y)]) hx hb dX3_rank_41 hl (k := 1) rfl (nI_1 _) (by decide) rfl (fun ls hl => ?_)
              refine lv_goto (tgt := 18) hx hb dX3_rank_44 (by decide) ?_
              exact ih18 (k + 1) (j + 1) (cs + 1) (ss + 2) hk2 (by omega) (by omega) (by omega) H4 _ hS hO hMT hLE ls (by omega) (lv_sub hl [0, 1, 2, 3] rfl)
      exact loop18 _ 0 0 (0 + 0 + 0) (0 + 0 + 0) rfl (by omega) (by omega) (by omega) H2 _ hS hO hMT hLE ls (Nat.lt_succ_self _) (lv_sub hl [0, 1, 3, 2] rfl)
    · exact absurd c9 (by decide)
  · refine x_rw (z := bI false) (congrArg bI hs) ?_
    refine lv_iconst (v := nI 1) hx hb dX3_rank_5 (by decide) ?_
    refine x_goI (x_runV (As := [.int (bI false), .int (nI 1)]) (rest := []) ⟨hx, hb, hml, hown, hts⟩ hE h0 hS (c_X3_no l G y (nI L.length) th false 1 H0 hO) (cwV 2 hts gX3_rank_X3_no rfl rfl rfl (by decide +kernel) ⟨Nat.le_of_ble_eq_true rfl, Nat.le_of_ble_eq_true rfl⟩) (gO.recv (C := RX3) hK hO rfl) (by omega) rfl rfl hl.1 rfl (lv_room (Nat.le_of_ble_eq_true rfl)) dX3_rank_6 ⟨by first | exact Nat.le_of_ble_eq_true rfl | omega, by first | exact Nat.le_of_ble_eq_true rfl | omega⟩) hS (by omega) (fun _ _ _ _ _ h => h.elim) (fun r7 H6 locs hq hF hS => ?_)
    have hLE := hLE.fr hF (by omega)
    obtain ⟨hr_, hOn⟩ := hq
    refine x_rw (z := bI true) hr_ ?_
    replace hOn : MO G y (nI L.length) (nI 1) H6 := hOn
    have hMT := hMT.setO hF hOn
    have hO := hOn
    refine x_if_eqB (tgt := 14) hx hb dX3_rank_9 (by decide) (fun c9 => ?_) (fun c9 => ?_)
    · exact absurd c9 (by decide)
    · refine lv_iconst (v := nI 0) hx hb dX3_rank_12 (by decide) ?_
      exact x_iret hx hb hr hlocks h0 hS (by omega) (by omega) dX3_rank_13 (MR.no n10 (rs1_1 (fun g => inB_no hs (inB_okN (n := 7) (by decide)) g)) (hMT.WE hLE))

abbrev RMX3_place : Room := { frames := 6, cells := 8, slots := 16, locals := 124 }
set_option maxHeartbeats 4000000 in
set_option maxRecDepth 100000 in
theorem c_X3_place (l : Launch) (G : gG) (y T : Nat) (L : List Nat) (txt : Nat → List Nat) (tad : Nat → Nat) (th : Int32) (i : Nat) (hi8 : i < 8) (H0 : Heap) (hMT : MT G y T L txt tad th H0) (hLE : LE G y H0) : XM l yX3_place wsX3_place RMX3_place G [.ref y, .int (nI i)] H0 (y + 12) (y + 34) 8 16 (qI (fun r H1 => r = nI (plc txt i) ∧ LE G y H1)) xN := by
  refine x_ofW (cc := cX3_place) (maxL := 5) (ret := (some .int)) (by decide) rfl (Nat.le_of_ble_eq_true rfl) ?_
  intro p e s m below meth c hx hb hr hml hown hts hlocks hout hin2 h0 hE ls hl
  replace hown : s.vm.findClass RX3 = some m.cls := hown
  have hK := hE.1
  have hS : va_S (gA (y + 12) (y + 34) H0.size) H0 H0 [] := va_S.rf
  generalize hargs : ([.ref y, .int (nI i)] : List Value).toArray = args at hts ⊢
  have hl : lv_has ls 5 [(0, .ref y), (1, .int (nI i))] := hl
  have hO := hMT.O
  have hyT := hMT.T
  refine lv_iconst (v := nI 0) hx hb dX3_place_0 (by decide) ?_
  refine lv_istore_n (lv' := [(2, .int (nI 0)), (0, .ref y), (1, .int (nI i))]) hx hb dX3_place_1 rfl hl (by decide) rfl (fun ls hl => ?_)
  refine lv_iconst (v := nI 0) hx hb dX3_place_2 (by decide) ?_
  refine lv_istore_n (lv' := [(3, .int (nI 0)), (2, .int (nI 0)), (0, .ref y), (1, .int (nI i))]) hx hb dX3_place_3 rfl hl (by decide) rfl (fun ls hl => ?_)
  have loop4 : ∀ (fu : Nat) (k j : Nat) (cs ss : Nat) (hk : k = cntB (fun q => befB txt q i) j) (hj : j ≤ 8) (hcs : cs ≤ j) (hss : ss ≤ 2 * j) (H : Heap) (locs : List Loc) (hS : va_S (gA (y + 12) (y + 34) H0.size) H0 H locs) (hO : gO G y 3 [.ref (y + 1), .int (nI L.length), .ref (y + 2), .ref (y + 11), .ref (y + 12), .ref (y + 13), .ref (y + 16), .ref (y + 25), .int th] H) (hMT : MT G y T L txt tad th H) (hLE : LE G y H) (ls : Array Slot), 8 - j < fu → lv_has ls 5 [(3, .int (nI j)), (2, .int (nI k)), (1, .int (nI i)), (0, .ref y)] → W p l e RMX3_place s m args below meth c H locs cs ss (XQ below args s H0 (y + 12) (y + 34) 8 16 (qI (fun r H1 => r = nI (plc txt i) ∧ LE G y H1)) xN) (F0 m 4 ls []) := by
    intro fu4
    induction fu4 with
    | zero => intro k j cs ss hk hj hcs hss H locs hS hO hMT hLE ls hmu; exact absurd hmu (Nat.not_lt_zero _)
    | succ fu4 ih4 =>
      intro k j cs ss hk hj hcs hss H locs hS hO hMT hLE ls hmu4 hl
      refine lv_iload_n hx hb dX3_place_4 rfl (lv_at hl 0 rfl) ?_
      refine lv_bipush (v := nI 8) hx hb dX3_place_5 (by decide) ?_
      refine x_icmp_ge (tgt := 47) hx hb (by omega) (by omega) dX3_place_7 (by decide) (fun c7 => ?_) (fun c7 => ?_)
      · refine lv_iload_n hx hb dX3_place_47 rfl (lv_at hl 1 rfl) ?_
        exact x_iret hx hb hr hlocks h0 hS (by omega) (by omega) dX3_place_48 (⟨by rw [hk, show j = 8 by omega]; rfl, hLE⟩)
      · refine lv_aload_n hx hb dX3_place_10 rfl (lv_at hl 3 rfl) ?_
        refine lv_iload_n hx hb dX3_place_11 rfl (lv_at hl 0 rfl) ?_
        refine lv_iload_n hx hb dX3_place_12 rfl (lv_at hl 2 rfl) ?_
        refine x_goI (x_runV (As := [.int (nI j), .int (nI i)]) (rest := []) ⟨hx, hb, hml, hown, hts⟩ hE h0 hS (c_X3_orderE l G y T L txt tad th j i (by omega) (by omega) H hMT hLE) (cwV 2 hts gX3_place_X3_order rfl rfl rfl (by decide +kernel) ⟨Nat.le_of_ble_eq_true rfl, Nat.le_of_ble_eq_true rfl⟩) (gO.recv (C := RX3) hK hO rfl) (by omega) rfl rfl hl.1 rfl (lv_room (Nat.le_of_ble_eq_true rfl)) dX3_place_13 ⟨Nat.le_trans (m := 8) (by omega) (Nat.le_of_ble_eq_true rfl), Nat.le_trans (m := 16) (by omega) (Nat.le_of_ble_eq_true rfl)⟩) hS (by omega) (fun _ _ _ _ _ h => h.elim) (fun r2 H1 locs hq hF hS => ?_)
        have hO := hO.fr hF (by omega)
        have hMT := hMT.fr hF (by omega)
        obtain ⟨rfl, hLE⟩ := hq
        refine lv_istore (lv' := [(4, .int (ordr (txt j) (txt i))), (3, .int (nI j)), (2, .int (nI k)), (1, .int (nI i)), (0, .ref y)]) hx hb dX3_place_16 hl (by decide) rfl (fun ls hl => ?_)
        refine lv_iload_n hx hb dX3_place_18 rfl (lv_at hl 2 rfl) ?_
        refine lv_iload hx hb dX3_place_19 (lv_at hl 0 rfl) ?_
        refine lv_if_lt (tgt := 34) hx hb dX3_place_21 (by decide) (fun c21 => ?_) (fun c21 => ?_)
        · have hk2 : k + 1 = cntB (fun q => befB txt q i) (j + 1) := by rw [cntB_t (by exact befB_t (Or.inl c21))]; rw [hk]
          refine lv_iconst (v := nI 1) hx hb dX3_place_34 (by decide) ?_
          refine lv_goto (tgt := 39) hx hb dX3_place_35 (by decide) ?_
          refine lv_iadd hx hb dX3_place_39 ?_
          refine x_rw (z := nI (k + 1)) (nI_add _ _) ?_
          refine lv_istore_n (lv' := [(2, .int (nI (k + 1))), (4, .int (ordr (txt j) (txt i))), (3, .int (nI j)), (1, .int (nI i)), (0, .ref y)]) hx hb dX3_place_40 rfl hl (by decide) rfl (fun ls hl => ?_)
          refine lv_iinc (v := nI (j + 1)) (lv' := [(3, .int (nI (j + 1))), (2, .int (nI (k + 1))), (4, .int (ordr (txt j) (txt i))), (1, .int (nI i)), (0, .ref y)]) hx hb dX3_place_41 hl (k := 2) rfl (nI_1 _) (by decide) rfl (fun ls hl => ?_)
          refine lv_goto (tgt := 4) hx hb dX3_place_44 (by decide) ?_
          exact ih4 (k + 1) (j + 1) (cs + 1) (ss + 2) hk2 (by omega) (by omega) (by omega) H1 _ hS hO hMT hLE ls (by omega) (lv_sub hl [0, 1, 3, 4] rfl)
        · refine lv_iload hx hb dX3_place_24 (lv_at hl 0 rfl) ?_
          refine lv_if_ne (tgt := 38) hx hb dX3_place_26 (by decide) (fun c26 => ?_) (fun c26 => ?_)
          · have hk2 : k = cntB (fun q => befB txt q i) (j + 1) := by rw [cntB_f (by exact befB_f (fun g => g.elim c21 (fun g => c26 g.1)))]; exact hk
            refine lv_iconst (v := nI 0) hx hb dX3_place_38 (by decide) ?_
            refine lv_iadd hx hb dX3_place_39 ?_
            refine x_rw (z := nI (k + 0)) (nI_add _ _) ?_
            refine lv_istore_n (lv' := [(2, .int (nI (k + 0))), (4, .int (ordr (txt j) (txt i))), (3, .int (nI j)), (1, .int (nI i)), (0, .ref y)]) hx hb dX3_place_40 rfl hl (by decide) rfl (fun ls hl => ?_)
            refine lv_iinc (v := nI (j + 1)) (lv' := [(3, .int (nI (j + 1))), (2, .int (nI (k + 0))), (4, .int (ordr (txt j) (txt i))), (1, .int (nI i)), (0, .ref y)]) hx hb dX3_place_41 hl (k := 2) rfl (nI_1 _) (by decide) rfl (fun ls hl => ?_)
            refine lv_goto (tgt := 4) hx hb dX3_place_44 (by decide) ?_
            exact ih4 (k + 0) (j + 1) (cs + 1) (ss + 2) hk2 (by omega) (by omega) (by omega) H1 _ hS hO hMT hLE ls (by omega) (lv_sub hl [0, 1, 3, 4] rfl)
          · refine lv_iload_n hx hb dX3_place_29 rfl (lv_at hl 1 rfl) ?_
            refine lv_iload_n hx hb dX3_place_30 rfl (lv_at hl 3 rfl) ?_
            refine x_icmp_ge (tgt := 38) hx hb (by omega) (by omega) dX3_place_31 (by decide) (fun c31 => ?_) (fun c31 => ?_)
            · have hk2 : k = cntB (fun q => befB txt q i) (j + 1) := by rw [cntB_f (by exact befB_f (fun g => g.elim c21 (fun g => absurd g.2 (by omega))))]; exact hk
              refine lv_iconst (v := nI 0) hx hb dX3_place_38 (by decide) ?_
              refine lv_iadd hx hb dX3_place_39 ?_
              refine x_rw (z := nI (k + 0)) (nI_add _ _) ?_
              refine lv_istore_n (lv' := [(2, .int (nI (k + 0))), (4, .int (ordr (txt j) (txt i))), (3, .int (nI j)), (1, .int (nI i)), (0, .ref y)]) hx hb dX3_place_40 rfl hl (by decide) rfl (fun ls hl => ?_)
              refine lv_iinc (v := nI (j + 1)) (lv' := [(3, .int (nI (j + 1))), (2, .int (nI (k + 0))), (4, .int (ordr (txt j) (txt i))), (1, .int (nI i)), (0, .ref y)]) hx hb dX3_place_41 hl (k := 2) rfl (nI_1 _) (by decide) rfl (fun ls hl => ?_)
              refine lv_goto (tgt := 4) hx hb dX3_place_44 (by decide) ?_
              exact ih4 (k + 0) (j + 1) (cs + 1) (ss + 2) hk2 (by omega) (by omega) (by omega) H1 _ hS hO hMT hLE ls (by omega) (lv_sub hl [0, 1, 3, 4] rfl)
            · have hk2 : k + 1 = cntB (fun q => befB txt q i) (j + 1) := by rw [cntB_t (by exact befB_t (Or.inr ⟨c26, by omega⟩))]; rw [hk]
              refine lv_iconst (v := nI 1) hx hb dX3_place_34 (by decide) ?_
              refine lv_goto (tgt := 39) hx hb dX3_place_35 (by decide) ?_
              refine lv_iadd hx hb dX3_place_39 ?_
              refine x_rw (z := nI (k + 1)) (nI_add _ _) ?_
              refine lv_istore_n (lv' := [(2, .int (nI (k + 1))), (4, .int (ordr (txt j) (txt i))), (3, .int (nI j)), (1, .int (nI i)), (0, .ref y)]) hx hb dX3_place_40 rfl hl (by decide) rfl (fun ls hl => ?_)
              refine lv_iinc (v := nI (j + 1)) (lv' := [(3, .int (nI (j + 1))), (2, .int (nI (k + 1))), (4, .int (ordr (txt j) (txt i))), (1, .int (nI i)), (0, .ref y)]) hx hb dX3_place_41 hl (k := 2) rfl (nI_1 _) (by decide) rfl (fun ls hl => ?_)
              refine lv_goto (tgt := 4) hx hb dX3_place_44 (by decide) ?_
              exact ih4 (k + 1) (j + 1) (cs + 1) (ss + 2) hk2 (by omega) (by omega) (by omega) H1 _ hS hO hMT hLE ls (by omega) (lv_sub hl [0, 1, 3, 4] rfl)
  exact loop4 _ 0 0 0 0 rfl (by omega) (by omega) (by omega) H0 _ hS hO hMT hLE ls (Nat.lt_succ_self _) (lv_sub hl [0, 1, 3, 2] rfl)

abbrev RMX3_at : Room := { frames := 7, cells := 64, slots := 128, locals := 148 }
set_option maxHeartbeats 4000000 in
set_option maxRecDepth 100000 in
theorem c_X3_at (l : Launch) (G : gG) (y : Nat) (L : List Nat) (txt : Nat → List Nat) (th : Int32) (x : Int32) (H0 : Heap) (hMW : MW G y L txt th H0) : XM l yX3_at wsX3_at RMX3_at G [.ref y, .int x] H0 y (y + 34) 64 128 (qI (fun r H1 => MR G y (rs1 (okN 8 x)) (∃ s, s < 8 ∧ plc txt s = ix x ∧ r = nI s) L L txt txt H1)) xN := by
  refine x_ofW (cc := cX3_at) (maxL := 3) (ret := (some .int)) (by decide) rfl (Nat.le_of_ble_eq_true rfl) ?_
  intro p e s m below meth c hx hb hr hml hown hts hlocks hout hin2 h0 hE ls hl
  replace hown : s.vm.findClass RX3 = some m.cls := hown
  have hK := hE.1
  have hS : va_S (gA y (y + 34) H0.size) H0 H0 [] := va_S.rf
  generalize hargs : ([.ref y, .int x] : List Value).toArray = args at hts ⊢
  have hl : lv_has ls 3 [(0, .ref y), (1, .int x)] := hl
  obtain ⟨tad, w, hMT, hLA⟩ := hMW
  generalize hTe : H0.size = T at hMT
  obtain ⟨hO, hTd, ⟨f2, hf2, hf2b⟩, ⟨f11, hf11, hf11b⟩, htx, hLd, hyT, hTs⟩ := id hMT
  have hTd0 := hTd
  obtain ⟨fd, hD, hDf, hDn, hDc⟩ := hTd
  have hTe2 : T = H0.size := hTe.symm
  have hLE : LE G y H0 := ⟨w, hLA⟩
  refine lv_aload_n hx hb dX3_at_0 rfl (lv_at hl 0 rfl) ?_
  refine lv_iload_n hx hb dX3_at_1 rfl (lv_at hl 1 rfl) ?_
  refine x_goI_ro (x_runS (As := [.int x]) (rest := [.ref y]) ⟨hx, hb, hml, hown, hts⟩ hE h0 hS (c_X3_isSlot l G x H0) (va_cwS 1 hts gX3_at_X3_isSlot rfl rfl rfl (by decide +kernel) ⟨Nat.le_of_ble_eq_true rfl, Nat.le_of_ble_eq_true rfl⟩) (by omega) rfl rfl hl.1 rfl (lv_room (Nat.le_of_ble_eq_true rfl)) dX3_at_2 ⟨by first | exact Nat.le_of_ble_eq_true rfl | omega, by first | exact Nat.le_of_ble_eq_true rfl | omega⟩) hS (by omega) (fun _ _ _ _ _ h => h.elim) (fun locs hq hS => ?_)
  rcases Bool.eq_false_or_eq_true (inB x (nI 0) (nI 7)) with hs | hs
  · refine x_rw (z := bI true) (congrArg bI hs) ?_
    refine lv_iconst (v := nI 1) hx hb dX3_at_5 (by decide) ?_
    refine x_goI (x_runV (As := [.int (bI true), .int (nI 1)]) (rest := []) ⟨hx, hb, hml, hown, hts⟩ hE h0 hS (c_X3_no l G y (nI L.length) th true 1 H0 hO) (cwV 2 hts gX3_at_X3_no rfl rfl rfl (by decide +kernel) ⟨Nat.le_of_ble_eq_true rfl, Nat.le_of_ble_eq_true rfl⟩) (gO.recv (C := RX3) hK hO rfl) (by omega) rfl rfl hl.1 rfl (lv_room (Nat.le_of_ble_eq_true rfl)) dX3_at_6 ⟨by first | exact Nat.le_of_ble_eq_true rfl | omega, by first | exact Nat.le_of_ble_eq_true rfl | omega⟩) hS (by omega) (fun _ _ _ _ _ h => h.elim) (fun r3 H2 locs hq hF hS => ?_)
    have hLE := hLE.fr hF (by omega)
    obtain ⟨hr_, hOn⟩ := hq
    refine x_rw (z := bI false) hr_ ?_
    replace hOn : MO G y (nI L.length) 0 H2 := hOn
    have hMT := hMT.setO hF hOn
    have hO := hOn
    refine x_if_eqB (tgt := 14) hx hb dX3_at_9 (by decide) (fun c9 => ?_) (fun c9 => ?_)
    · obtain ⟨i, hi, rfl⟩ := (inB_okN (n := 7) (by decide)).mp hs
      obtain ⟨pm, hOS⟩ := os_ex hMT.gs 8 (Nat.le_refl _)
      have hpm8 := hOS.1 i (by omega)
      have hpi := os_plc hMT.gs hOS (i := i) (by omega)
      refine lv_iconst (v := nI 0) hx hb dX3_at_14 (by decide) ?_
      refine lv_istore_n (lv' := [(2, .int (nI 0)), (0, .ref y), (1, .int (nI i))]) hx hb dX3_at_15 rfl hl (by decide) rfl (fun ls hl => ?_)
      have loop16 : ∀ (fu : Nat) (s_ : Nat) (cs ss : Nat) (hsp : s_ ≤ pm i) (hcs : cs ≤ 8 * s_) (hss : ss ≤ 16 * s_) (H : Heap) (locs : List Loc) (hS : va_S (gA y (y + 34) H0.size) H0 H locs) (hO : gO G y 3 [.ref (y + 1), .int (nI L.length), .ref (y + 2), .ref (y + 11), .ref (y + 12), .ref (y + 13), .ref (y + 16), .ref (y + 25), .int 0] H) (hMT : MT G y T L txt tad 0 H) (hLE : LE G y H) (ls : Array Slot), pm i - s_ < fu → lv_has ls 3 [(2, .int (nI s_)), (1, .int (nI i)), (0, .ref y)] → W p l e RMX3_at s m args below meth c H locs cs ss (XQ below args s H0 y (y + 34) 64 128 (qI (fun r H1 => MR G y (rs1 (okN 8 (nI i))) (∃ s, s < 8 ∧ plc txt s = ix (nI i) ∧ r = nI s) L L txt txt H1)) xN) (F0 m 16 ls []) := by
        intro fu16
        induction fu16 with
        | zero => intro s_ cs ss hsp hcs hss H locs hS hO hMT hLE ls hmu; exact absurd hmu (Nat.not_lt_zero _)
        | succ fu16 ih16 =>
          intro s_ cs ss hsp hcs hss H locs hS hO hMT hLE ls hmu16 hl
          refine lv_aload_n hx hb dX3_at_16 rfl (lv_at hl 2 rfl) ?_
          refine lv_iload_n hx hb dX3_at_17 rfl (lv_at hl 0 rfl) ?_
          refine x_goI (x_runV (As := [.int (nI s_)]) (rest := []) ⟨hx, hb, hml, hown, hts⟩ hE h0 hS (c_X3_place l G y T L txt tad 0 s_ (by omega) H hMT hLE) (cwV 1 hts gX3_at_X3_place rfl rfl rfl (by decide +kernel) ⟨Nat.le_of_ble_eq_true rfl, Nat.le_of_ble_eq_true rfl⟩) (gO.recv (C := RX3) hK hO rfl) (by omega) rfl rfl hl.1 rfl (lv_room (Nat.le_of_ble_eq_true rfl)) dX3_at_18 ⟨Nat.le_trans (m := 64) (by omega) (Nat.le_of_ble_eq_true rfl), Nat.le_trans (m := 128) (by omega) (Nat.le_of_ble_eq_true rfl)⟩) hS (by omega) (fun _ _ _ _ _ h => h.elim) (fun r5 H4 locs hq hF hS => ?_)
          have hO := hO.fr hF (by omega)
          have hMT := hMT.fr hF (by omega)
          obtain ⟨rfl, hLE⟩ := hq
          have hp8 := plc_8 hMT.gs (x := s_) (by omega)
          refine lv_iload_n hx hb dX3_at_21 rfl (lv_at hl 1 rfl) ?_
          refine x_icmp_eq (tgt := 31) hx hb (by omega) (by omega) dX3_at_22 (by decide) (fun c22 => ?_) (fun c22 => ?_)
          · refine lv_iload_n hx hb dX3_at_31 rfl (lv_at hl 0 rfl) ?_
            exact x_iret hx hb hr hlocks h0 hS (by omega) (by omega) dX3_at_32 (MR.ok (rs1_y ⟨i, hi, rfl⟩) ⟨s_, by omega, by rw [ix_N (by omega)]; exact c22, rfl⟩ (hMT.WE hLE))
          · have hne : s_ ≠ pm i := fun e => c22 (by rw [e]; exact hpi)
            refine lv_iinc (v := nI (s_ + 1)) (lv' := [(2, .int (nI (s_ + 1))), (1, .int (nI i)), (0, .ref y)]) hx hb dX3_at_25 hl (k := 0) rfl (nI_1 _) (by decide) rfl (fun ls hl => ?_)
            refine lv_goto (tgt := 16) hx hb dX3_at_28 (by decide) ?_
            exact ih16 (s_ + 1) (cs + 8) (ss + 16) (by omega) (by omega) (by omega) H4 _ hS hO hMT hLE ls (by omega) (lv_sub hl [0, 1, 2] rfl)
      exact loop16 _ 0 (0 + 0 + 0) (0 + 0 + 0) (by omega) (by omega) (by omega) H2 _ hS hO hMT hLE ls (Nat.lt_succ_self _) (lv_sub hl [0, 2, 1] rfl)
    · exact absurd c9 (by decide)
  · refine x_rw (z := bI false) (congrArg bI hs) ?_
    refine lv_iconst (v := nI 1) hx hb dX3_at_5 (by decide) ?_
    refine x_goI (x_runV (As := [.int (bI false), .int (nI 1)]) (rest := []) ⟨hx, hb, hml, hown, hts⟩ hE h0 hS (c_X3_no l G y (nI L.length) th false 1 H0 hO) (cwV 2 hts gX3_at_X3_no rfl rfl rfl (by decide +kernel) ⟨Nat.le_of_ble_eq_true rfl, Nat.le_of_ble_eq_true rfl⟩) (gO.recv (C := RX3) hK hO rfl) (by omega) rfl rfl hl.1 rfl (lv_room (Nat.le_of_ble_eq_true rfl)) dX3_at_6 ⟨by first | exact Nat.le_of_ble_eq_true rfl | omega, by first | exact Nat.le_of_ble_eq_true rfl | omega⟩) hS (by omega) (fun _ _ _ _ _ h => h.elim) (fun r7 H6 locs hq hF hS => ?_)
    have hLE := hLE.fr hF (by omega)
    obtain ⟨hr_, hOn⟩ := hq
    refine x_rw (z := bI true) hr_ ?_
    replace hOn : MO G y (nI L.length) (nI 1) H6 := hOn
    have hMT := hMT.setO hF hOn
    have hO := hOn
    refine x_if_eqB (tgt := 14) hx hb dX3_at_9 (by decide) (fun c9 => ?_) (fun c9 => ?_)
    · exact absurd c9 (by decide)
    · refine lv_iconst (v := nI 0) hx hb dX3_at_12 (by decide) ?_
      exact x_iret hx hb hr hlocks h0 hS (by omega) (by omega) dX3_at_13 (MR.no n10 (rs1_1 (fun g => inB_no hs (inB_okN (n := 7) (by decide)) g)) (hMT.WE hLE))

abbrev RMX3_between : Room := { frames := 6, cells := 16, slots := 32, locals := 124 }
set_option maxHeartbeats 4000000 in
set_option maxRecDepth 100000 in
theorem c_X3_between (l : Launch) (G : gG) (y : Nat) (L : List Nat) (txt : Nat → List Nat) (th : Int32) (x z : Int32) (H0 : Heap) (hMW : MW G y L txt th H0) : XM l yX3_between wsX3_between RMX3_between G [.ref y, .int x, .int z] H0 y (y + 34) 16 32 (qI (fun r H1 => MR G y (rs1 (okN 8 x ∧ okN 8 z)) (r = nI (cntB (fun q => decide (0 ≤ ordr (txt q) (txt (ix x))) && decide (ordr (txt q) (txt (ix z)) < 0)) 8)) L L txt txt H1)) xN := by
  refine x_ofW (cc := cX3_between) (maxL := 5) (ret := (some .int)) (by decide) rfl (Nat.le_of_ble_eq_true rfl) ?_
  intro p e s m below meth c hx hb hr hml hown hts hlocks hout hin2 h0 hE ls hl
  replace hown : s.vm.findClass RX3 = some m.cls := hown
  have hK := hE.1
  have hS : va_S (gA y (y + 34) H0.size) H0 H0 [] := va_S.rf
  generalize hargs : ([.ref y, .int x, .int z] : List Value).toArray = args at hts ⊢
  have hl : lv_has ls 5 [(0, .ref y), (1, .int x), (2, .int z)] := hl
  obtain ⟨tad, w, hMT, hLA⟩ := hMW
  generalize hTe : H0.size = T at hMT
  obtain ⟨hO, hTd, ⟨f2, hf2, hf2b⟩, ⟨f11, hf11, hf11b⟩, htx, hLd, hyT, hTs⟩ := id hMT
  have hTd0 := hTd
  obtain ⟨fd, hD, hDf, hDn, hDc⟩ := hTd
  have hTe2 : T = H0.size := hTe.symm
  have hLE : LE G y H0 := ⟨w, hLA⟩
  refine lv_aload_n hx hb dX3_between_0 rfl (lv_at hl 0 rfl) ?_
  refine lv_iload_n hx hb dX3_between_1 rfl (lv_at hl 1 rfl) ?_
  refine x_goI_ro (x_runS (As := [.int x]) (rest := [.ref y]) ⟨hx, hb, hml, hown, hts⟩ hE h0 hS (c_X3_isSlot l G x H0) (va_cwS 1 hts gX3_between_X3_isSlot rfl rfl rfl (by decide +kernel) ⟨Nat.le_of_ble_eq_true rfl, Nat.le_of_ble_eq_true rfl⟩) (by omega) rfl rfl hl.1 rfl (lv_room (Nat.le_of_ble_eq_true rfl)) dX3_between_2 ⟨by first | exact Nat.le_of_ble_eq_true rfl | omega, by first | exact Nat.le_of_ble_eq_true rfl | omega⟩) hS (by omega) (fun _ _ _ _ _ h => h.elim) (fun locs hq hS => ?_)
  refine x_if_eqB (tgt := 19) hx hb dX3_between_5 (by decide) (fun c5 => ?_) (fun c5 => ?_)
  · refine lv_iconst (v := nI 0) hx hb dX3_between_19 (by decide) ?_
    refine x_rw (z := bI false) (by decide) ?_
    refine lv_iconst (v := nI 1) hx hb dX3_between_20 (by decide) ?_
    refine x_goI (x_runV (As := [.int (bI false), .int (nI 1)]) (rest := []) ⟨hx, hb, hml, hown, hts⟩ hE h0 hS (c_X3_no l G y (nI L.length) th false 1 H0 hO) (cwV 2 hts gX3_between_X3_no rfl rfl rfl (by decide +kernel) ⟨Nat.le_of_ble_eq_true rfl, Nat.le_of_ble_eq_true rfl⟩) (gO.recv (C := RX3) hK hO rfl) (by omega) rfl rfl hl.1 rfl (lv_room (Nat.le_of_ble_eq_true rfl)) dX3_between_21 ⟨by first | exact Nat.le_of_ble_eq_true rfl | omega, by first | exact Nat.le_of_ble_eq_true rfl | omega⟩) hS (by omega) (fun _ _ _ _ _ h => h.elim) (fun r3 H2 locs hq hF hS => ?_)
    have hLE := hLE.fr hF (by omega)
    obtain ⟨hr_, hOn⟩ := hq
    refine x_rw (z := bI true) hr_ ?_
    replace hOn : MO G y (nI L.length) (nI 1) H2 := hOn
    have hMT := hMT.setO hF hOn
    have hO := hOn
    refine x_if_eqB (tgt := 29) hx hb dX3_between_24 (by decide) (fun c24 => ?_) (fun c24 => ?_)
    · exact absurd c24 (by decide)
    · refine lv_iconst (v := nI 0) hx hb dX3_between_27 (by decide) ?_
      exact x_iret hx hb hr hlocks h0 hS (by omega) (by omega) dX3_between_28 (MR.no n10 (rs1_1 (inB_two (n := 7) (by decide) (by first | exact Or.inl c5 | exact Or.inr c12))) (hMT.WE hLE))
  · refine lv_iload_n hx hb dX3_between_8 rfl (lv_at hl 2 rfl) ?_
    refine x_goI_ro (x_runS (As := [.int z]) (rest := [.ref y]) ⟨hx, hb, hml, hown, hts⟩ hE h0 hS (c_X3_isSlot l G z H0) (va_cwS 1 hts gX3_between_X3_isSlot rfl rfl rfl (by decide +kernel) ⟨Nat.le_of_ble_eq_true rfl, Nat.le_of_ble_eq_true rfl⟩) (by omega) rfl rfl hl.1 rfl (lv_room (Nat.le_of_ble_eq_true rfl)) dX3_between_9 ⟨by first | exact Nat.le_of_ble_eq_true rfl | omega, by first | exact Nat.le_of_ble_eq_true rfl | omega⟩) hS (by omega) (fun _ _ _ _ _ h => h.elim) (fun locs hq hS => ?_)
    refine x_if_eqB (tgt := 19) hx hb dX3_between_12 (by decide) (fun c12 => ?_) (fun c12 => ?_)
    · refine lv_iconst (v := nI 0) hx hb dX3_between_19 (by decide) ?_
      refine x_rw (z := bI false) (by decide) ?_
      refine lv_iconst (v := nI 1) hx hb dX3_between_20 (by decide) ?_
      refine x_goI (x_runV (As := [.int (bI false), .int (nI 1)]) (rest := []) ⟨hx, hb, hml, hown, hts⟩ hE h0 hS (c_X3_no l G y (nI L.length) th false 1 H0 hO) (cwV 2 hts gX3_between_X3_no rfl rfl rfl (by decide +kernel) ⟨Nat.le_of_ble_eq_true rfl, Nat.le_of_ble_eq_true rfl⟩) (gO.recv (C := RX3) hK hO rfl) (by omega) rfl rfl hl.1 rfl (lv_room (Nat.le_of_ble_eq_true rfl)) dX3_between_21 ⟨by first | exact Nat.le_of_ble_eq_true rfl | omega, by first | exact Nat.le_of_ble_eq_true rfl | omega⟩) hS (by omega) (fun _ _ _ _ _ h => h.elim) (fun r6 H5 locs hq hF hS => ?_)
      have hLE := hLE.fr hF (by omega)
      obtain ⟨hr_, hOn⟩ := hq
      refine x_rw (z := bI true) hr_ ?_
      replace hOn : MO G y (nI L.length) (nI 1) H5 := hOn
      have hMT := hMT.setO hF hOn
      have hO := hOn
      refine x_if_eqB (tgt := 29) hx hb dX3_between_24 (by decide) (fun c24 => ?_) (fun c24 => ?_)
      · exact absurd c24 (by decide)
      · refine lv_iconst (v := nI 0) hx hb dX3_between_27 (by decide) ?_
        exact x_iret hx hb hr hlocks h0 hS (by omega) (by omega) dX3_between_28 (MR.no n10 (rs1_1 (inB_two (n := 7) (by decide) (by first | exact Or.inl c5 | exact Or.inr c12))) (hMT.WE hLE))
    · refine lv_iconst (v := nI 1) hx hb dX3_between_15 (by decide) ?_
      refine lv_goto (tgt := 20) hx hb dX3_between_16 (by decide) ?_
      refine x_rw (z := bI true) (by decide) ?_
      refine lv_iconst (v := nI 1) hx hb dX3_between_20 (by decide) ?_
      refine x_goI (x_runV (As := [.int (bI true), .int (nI 1)]) (rest := []) ⟨hx, hb, hml, hown, hts⟩ hE h0 hS (c_X3_no l G y (nI L.length) th true 1 H0 hO) (cwV 2 hts gX3_between_X3_no rfl rfl rfl (by decide +kernel) ⟨Nat.le_of_ble_eq_true rfl, Nat.le_of_ble_eq_true rfl⟩) (gO.recv (C := RX3) hK hO rfl) (by omega) rfl rfl hl.1 rfl (lv_room (Nat.le_of_ble_eq_true rfl)) dX3_between_21 ⟨by first | exact Nat.le_of_ble_eq_true rfl | omega, by first | exact Nat.le_of_ble_eq_true rfl | omega⟩) hS (by omega) (fun _ _ _ _ _ h => h.elim) (fun r8 H7 locs hq hF hS => ?_)
      have hLE := hLE.fr hF (by omega)
      obtain ⟨hr_, hOn⟩ := hq
      refine x_rw (z := bI false) hr_ ?_
      replace hOn : MO G y (nI L.length) 0 H7 := hOn
      have hMT := hMT.setO hF hOn
      have hO := hOn
      refine x_if_eqB (tgt := 29) hx hb dX3_between_24 (by decide) (fun c24 => ?_) (fun c24 => ?_)
      · obtain ⟨i, hi, rfl⟩ := (inB_okN (n := 7) (by decide)).mp c5
        obtain ⟨j, hj, rfl⟩ := (inB_okN (n := 7) (by decide)).mp c12
        refine lv_iconst (v := nI 0) hx hb dX3_between_29 (by decide) ?_
        refine lv_istore_n (lv' := [(3, .int (nI 0)), (0, .ref y), (1, .int (nI i)), (2, .int (nI j))]) hx hb dX3_between_30 rfl hl (by decide) rfl (fun ls hl => ?_)
        refine lv_iconst (v := nI 0) hx hb dX3_between_31 (by decide) ?_
        refine lv_istore (lv' := [(4, .int (nI 0)), (3, .int (nI 0)), (0, .ref y), (1, .int (nI i)), (2, .int (nI j))]) hx hb dX3_between_32 hl (by decide) rfl (fun ls hl => ?_)
        have loop34 : ∀ (fu : Nat) (k q : Nat) (cs ss : Nat) (hk : k = cntB (fun q => decide (0 ≤ ordr (txt q) (txt i)) && decide (ordr (txt q) (txt j) < 0)) q) (hq8 : q ≤ 8) (hcs : cs ≤ 2 * q) (hss : ss ≤ 4 * q) (H : Heap) (locs : List Loc) (hS : va_S (gA y (y + 34) H0.size) H0 H locs) (hO : gO G y 3 [.ref (y + 1), .int (nI L.length), .ref (y + 2), .ref (y + 11), .ref (y + 12), .ref (y + 13), .ref (y + 16), .ref (y + 25), .int 0] H) (hMT : MT G y T L txt tad 0 H) (hLE : LE G y H) (ls : Array Slot), 8 - q < fu → lv_has ls 5 [(4, .int (nI q)), (3, .int (nI k)), (2, .int (nI j)), (1, .int (nI i)), (0, .ref y)] → W p l e RMX3_between s m args below meth c H locs cs ss (XQ below args s H0 y (y + 34) 16 32 (qI (fun r H1 => MR G y (rs1 (okN 8 (nI i) ∧ okN 8 (nI j))) (r = nI (cntB (fun q => decide (0 ≤ ordr (txt q) (txt (ix (nI i)))) && decide (ordr (txt q) (txt (ix (nI j))) < 0)) 8)) L L txt txt H1)) xN) (F0 m 34 ls []) := by
          intro fu34
          induction fu34 with
          | zero => intro k q cs ss hk hq8 hcs hss H locs hS hO hMT hLE ls hmu; exact absurd hmu (Nat.not_lt_zero _)
          | succ fu34 ih34 =>
            intro k q cs ss hk hq8 hcs hss H locs hS hO hMT hLE ls hmu34 hl
            refine lv_iload hx hb dX3_between_34 (lv_at hl 0 rfl) ?_
            refine lv_bipush (v := nI 8) hx hb dX3_between_36 (by decide) ?_
            refine x_icmp_ge (tgt := 75) hx hb (by omega) (by omega) dX3_between_38 (by decide) (fun c38 => ?_) (fun c38 => ?_)
            · refine lv_iload_n hx hb dX3_between_75 rfl (lv_at hl 1 rfl) ?_
              exact x_iret hx hb hr hlocks h0 hS (by omega) (by omega) dX3_between_76 (MR.ok (rs1_y ⟨⟨i, hi, rfl⟩, j, hj, rfl⟩) (by rw [ix_N (by omega), ix_N (by omega), hk, show q = 8 by omega]) (hMT.WE hLE))
            · refine lv_iload_n hx hb dX3_between_41 rfl (lv_at hl 1 rfl) ?_
              refine lv_aload_n hx hb dX3_between_42 rfl (lv_at hl 4 rfl) ?_
              refine lv_iload hx hb dX3_between_43 (lv_at hl 0 rfl) ?_
              refine lv_iload_n hx hb dX3_between_45 rfl (lv_at hl 3 rfl) ?_
              refine x_goI (x_runV (As := [.int (nI q), .int (nI i)]) (rest := [.int (nI k)]) ⟨hx, hb, hml, hown, hts⟩ hE h0 hS (c_X3_orderE l G y T L txt tad 0 q i (by omega) (by omega) H hMT hLE) (cwV 2 hts gX3_between_X3_order rfl rfl rfl (by decide +kernel) ⟨Nat.le_of_ble_eq_true rfl, Nat.le_of_ble_eq_true rfl⟩) (gO.recv (C := RX3) hK hO rfl) (by omega) rfl rfl hl.1 rfl (lv_room (Nat.le_of_ble_eq_true rfl)) dX3_between_46 ⟨Nat.le_trans (m := 16) (by omega) (Nat.le_of_ble_eq_true rfl), Nat.le_trans (m := 32) (by omega) (Nat.le_of_ble_eq_true rfl)⟩) hS (by omega) (fun _ _ _ _ _ h => h.elim) (fun r10 H9 locs hq hF hS => ?_)
              have hO := hO.fr hF (by omega)
              have hMT := hMT.fr hF (by omega)
              obtain ⟨rfl, hLE⟩ := hq
              refine lv_if_lt (tgt := 66) hx hb dX3_between_49 (by decide) (fun c49 => ?_) (fun c49 => ?_)
              · have hk2 : k = cntB (fun q => decide (0 ≤ ordr (txt q) (txt i)) && decide (ordr (txt q) (txt j) < 0)) (q + 1) := by rw [cntB_f (by show (decide _ && decide _) = false; rw [decide_eq_false (Int32.not_le.mpr c49)]; rfl)]; exact hk
                refine lv_iconst (v := nI 0) hx hb dX3_between_66 (by decide) ?_
                refine lv_iadd hx hb dX3_between_67 ?_
                refine x_rw (z := nI (k + 0)) (nI_add _ _) ?_
                refine lv_istore_n (lv' := [(3, .int (nI (k + 0))), (4, .int (nI q)), (2, .int (nI j)), (1, .int (nI i)), (0, .ref y)]) hx hb dX3_between_68 rfl hl (by decide) rfl (fun ls hl => ?_)
                refine lv_iinc (v := nI (q + 1)) (lv' := [(4, .int (nI (q + 1))), (3, .int (nI (k + 0))), (2, .int (nI j)), (1, .int (nI i)), (0, .ref y)]) hx hb dX3_between_69 hl (k := 1) rfl (nI_1 _) (by decide) rfl (fun ls hl => ?_)
                refine lv_goto (tgt := 34) hx hb dX3_between_72 (by decide) ?_
                exact ih34 (k + 0) (q + 1) (cs + 1) (ss + 2) hk2 (by omega) (by omega) (by omega) H9 _ hS hO hMT hLE ls (by omega) (lv_sub hl [0, 1, 2, 3, 4] rfl)
              · refine lv_aload_n hx hb dX3_between_52 rfl (lv_at hl 4 rfl) ?_
                refine lv_iload hx hb dX3_between_53 (lv_at hl 0 rfl) ?_
                refine lv_iload_n hx hb dX3_between_55 rfl (lv_at hl 2 rfl) ?_
                refine x_goI (x_runV (As := [.int (nI q), .int (nI j)]) (rest := [.int (nI k)]) ⟨hx, hb, hml, hown, hts⟩ hE h0 hS (c_X3_orderE l G y T L txt tad 0 q j (by omega) (by omega) H9 hMT hLE) (cwV 2 hts gX3_between_X3_order rfl rfl rfl (by decide +kernel) ⟨Nat.le_of_ble_eq_true rfl, Nat.le_of_ble_eq_true rfl⟩) (gO.recv (C := RX3) hK hO rfl) (by omega) rfl rfl hl.1 rfl (lv_room (Nat.le_of_ble_eq_true rfl)) dX3_between_56 ⟨Nat.le_trans (m := 16) (by omega) (Nat.le_of_ble_eq_true rfl), Nat.le_trans (m := 32) (by omega) (Nat.le_of_ble_eq_true rfl)⟩) hS (by omega) (fun _ _ _ _ _ h => h.elim) (fun r12 H11 locs hq hF hS => ?_)
                have hO := hO.fr hF (by omega)
                have hMT := hMT.fr hF (by omega)
                obtain ⟨rfl, hLE⟩ := hq
                refine lv_if_ge (tgt := 66) hx hb dX3_between_59 (by decide) (fun c59 => ?_) (fun c59 => ?_)
                · have hk2 : k = cntB (fun q => decide (0 ≤ ordr (txt q) (txt i)) && decide (ordr (txt q) (txt j) < 0)) (q + 1) := by rw [cntB_f (by show (decide _ && decide _) = false; rw [decide_eq_false (Int32.not_lt.mpr c59), Bool.and_false])]; exact hk
                  refine lv_iconst (v := nI 0) hx hb dX3_between_66 (by decide) ?_
                  refine lv_iadd hx hb dX3_between_67 ?_
                  refine x_rw (z := nI (k + 0)) (nI_add _ _) ?_
                  refine lv_istore_n (lv' := [(3, .int (nI (k + 0))), (4, .int (nI q)), (2, .int (nI j)), (1, .int (nI i)), (0, .ref y)]) hx hb dX3_between_68 rfl hl (by decide) rfl (fun ls hl => ?_)
                  refine lv_iinc (v := nI (q + 1)) (lv' := [(4, .int (nI (q + 1))), (3, .int (nI (k + 0))), (2, .int (nI j)), (1, .int (nI i)), (0, .ref y)]) hx hb dX3_between_69 hl (k := 1) rfl (nI_1 _) (by decide) rfl (fun ls hl => ?_)
                  refine lv_goto (tgt := 34) hx hb dX3_between_72 (by decide) ?_
                  exact ih34 (k + 0) (q + 1) (cs + 1 + 1) (ss + 2 + 2) hk2 (by omega) (by omega) (by omega) H11 _ hS hO hMT hLE ls (by omega) (lv_sub hl [0, 1, 2, 3, 4] rfl)
                · have hk2 : k + 1 = cntB (fun q => decide (0 ≤ ordr (txt q) (txt i)) && decide (ordr (txt q) (txt j) < 0)) (q + 1) := by rw [cntB_t (by show (decide _ && decide _) = true; rw [decide_eq_true (Int32.not_lt.mp c49), decide_eq_true (Int32.not_le.mp c59)]; rfl)]; rw [hk]
                  refine lv_iconst (v := nI 1) hx hb dX3_between_62 (by decide) ?_
                  refine lv_goto (tgt := 67) hx hb dX3_between_63 (by decide) ?_
                  refine lv_iadd hx hb dX3_between_67 ?_
                  refine x_rw (z := nI (k + 1)) (nI_add _ _) ?_
                  refine lv_istore_n (lv' := [(3, .int (nI (k + 1))), (4, .int (nI q)), (2, .int (nI j)), (1, .int (nI i)), (0, .ref y)]) hx hb dX3_between_68 rfl hl (by decide) rfl (fun ls hl => ?_)
                  refine lv_iinc (v := nI (q + 1)) (lv' := [(4, .int (nI (q + 1))), (3, .int (nI (k + 1))), (2, .int (nI j)), (1, .int (nI i)), (0, .ref y)]) hx hb dX3_between_69 hl (k := 1) rfl (nI_1 _) (by decide) rfl (fun ls hl => ?_)
                  refine lv_goto (tgt := 34) hx hb dX3_between_72 (by decide) ?_
                  exact ih34 (k + 1) (q + 1) (cs + 1 + 1) (ss + 2 + 2) hk2 (by omega) (by omega) (by omega) H11 _ hS hO hMT hLE ls (by omega) (lv_sub hl [0, 1, 2, 3, 4] rfl)
        exact loop34 _ 0 0 (0 + 0 + 0 + 0) (0 + 0 + 0 + 0) rfl (by omega) (by omega) (by omega) H7 _ hS hO hMT hLE ls (Nat.lt_succ_self _) (lv_sub hl [0, 1, 4, 3, 2] rfl)
      · exact absurd c24 (by decide)

abbrev RMX3_sort : Room := { frames := 7, cells := 66, slots := 144, locals := 148 }
set_option maxHeartbeats 4000000 in
set_option maxRecDepth 100000 in
theorem c_X3_sort (l : Launch) (G : gG) (y : Nat) (L : List Nat) (txt : Nat → List Nat) (th : Int32) (H0 : Heap) (hMW : MW G y L txt th H0) : XM l yX3_sort wsX3_sort RMX3_sort G [.ref y] H0 y (y + 34) 66 144 (qI (fun r H1 => r = nI (cntB (fun s => decide (plc txt s ≠ s)) 8) ∧ ∃ pm, OS txt 8 pm ∧ MW G y L (fun i => txt (pm i)) 0 H1)) xN := by
  refine x_ofW (cc := cX3_sort) (maxL := 6) (ret := (some .int)) (by decide) rfl (Nat.le_of_ble_eq_true rfl) ?_
  intro p e s m below meth c hx hb hr hml hown hts hlocks hout hin2 h0 hE ls hl
  replace hown : s.vm.findClass RX3 = some m.cls := hown
  have hK := hE.1
  have hS : va_S (gA y (y + 34) H0.size) H0 H0 [] := va_S.rf
  generalize hargs : ([.ref y] : List Value).toArray = args at hts ⊢
  have hw0 := hts (.fieldLink RX3 39 "ReleaseledgerModel" "thrown" "I") (by decide +kernel)
  have hw1 : ∀ w ∈ u_ws RX3 TX3 9, w ∈ wsX3_sort := by decide +kernel
  have hw2 := hts (.classLink RX3 22 "[C") (by decide +kernel)
  have hw3 := hts (.arrayClass .int) (by decide +kernel)
  have hw4 := hts (.fieldLink RX3 15 "ReleaseledgerModel" "texts" "[[C") (by decide +kernel)
  have hw5 := hts (.fieldLink RX3 18 "ReleaseledgerModel" "sizes" "[I") (by decide +kernel)
  have hl : lv_has ls 6 [(0, .ref y)] := hl
  obtain ⟨tad, w, hMT, hLA⟩ := hMW
  generalize hTe : H0.size = T at hMT
  obtain ⟨hO, hTd, ⟨f2, hf2, hf2b⟩, ⟨f11, hf11, hf11b⟩, htx, hLd, hyT, hTs⟩ := id hMT
  have hTd0 := hTd
  obtain ⟨fd, hD, hDf, hDn, hDc⟩ := hTd
  have hTe2 : T = H0.size := hTe.symm
  have hLE : LE G y H0 := ⟨w, hLA⟩
  refine lv_aload_n hx hb dX3_sort_0 rfl (lv_at hl 0 rfl) ?_
  refine lv_iconst (v := nI 0) hx hb dX3_sort_1 (by decide) ?_
  refine x_put (ci := 3) hx hb hts hown hK rfl hw1 tyX3_ok nmX3 8 (by decide) hw0 rfl (tyX3_ok 8 (by decide)) rfl rfl hO (Nat.le_of_ble_eq_true rfl) hS (by unfold gA; omega) dX3_sort_2 (fun H1 locs hO hF hz hS => ?_)
  have hO : gO G y 3 [.ref (y + 1), .int (nI L.length), .ref (y + 2), .ref (y + 11), .ref (y + 12), .ref (y + 13), .ref (y + 16), .ref (y + 25), .int (nI 0)] H1 := hO
  have hf2 := hf2.fr hF (by omega)
  have hf11 := hf11.fr hF (by omega)
  have hLE := hLE.fr hF (by omega)
  have hMT := hMT.setO (th2 := 0) hF hO
  refine lv_bipush (v := nI 8) hx hb dX3_sort_5 (by decide) ?_
  refine x_newQA (k := 4) (t := .char) (n := 8) hx hb hown hw2 rfl hE.2.1.2.2.2.2.2.2.2.1 rfl (by decide) hK hS (Nat.le_of_ble_eq_true rfl) (Nat.le_of_ble_eq_true rfl) (Nat.le_of_ble_eq_true rfl) dX3_sort_7 (fun zt H2 hze_zt hz0_zt hzt hF hz_zt hS => ?_)
  have hlt_hO := hO.lt
  have hlt_hf2 := hf2.lt
  have hlt_hf11 := hf11.lt
  have hO := hO.fr hF (by omega)
  have hf2 := hf2.fr hF (by omega)
  have hf11 := hf11.fr hF (by omega)
  have hLE := hLE.fr hF (by omega)
  have hMT := hMT.fr hF (by omega)
  refine lv_astore_n (lv' := [(1, .ref zt), (0, .ref y)]) hx hb dX3_sort_10 rfl hl (by decide) rfl (fun ls hl => ?_)
  refine lv_bipush (v := nI 8) hx hb dX3_sort_11 (by decide) ?_
  refine x_newI (n := 8) hx hb hK hS hw3 (by decide) (Nat.le_of_ble_eq_true rfl) (Nat.le_of_ble_eq_true rfl) dX3_sort_13 (fun zs H3 hze_zs hz0_zs hzs hF hz_zs hS => ?_)
  have hlt_hO := hO.lt
  have hlt_hf2 := hf2.lt
  have hlt_hf11 := hf11.lt
  have hlt_hzt := hzt.lt
  have hO := hO.fr hF (by omega)
  have hf2 := hf2.fr hF (by omega)
  have hf11 := hf11.fr hF (by omega)
  have hzt := hzt.fr hF (by omega)
  have hLE := hLE.fr hF (by omega)
  have hMT := hMT.fr hF (by omega)
  refine lv_astore_n (lv' := [(2, .ref zs), (1, .ref zt), (0, .ref y)]) hx hb dX3_sort_15 rfl hl (by decide) rfl (fun ls hl => ?_)
  refine lv_iconst (v := nI 0) hx hb dX3_sort_16 (by decide) ?_
  refine lv_istore_n (lv' := [(3, .int (nI 0)), (2, .ref zs), (1, .ref zt), (0, .ref y)]) hx hb dX3_sort_17 rfl hl (by decide) rfl (fun ls hl => ?_)
  refine lv_iconst (v := nI 0) hx hb dX3_sort_18 (by decide) ?_
  refine lv_istore (lv' := [(4, .int (nI 0)), (3, .int (nI 0)), (2, .ref zs), (1, .ref zt), (0, .ref y)]) hx hb dX3_sort_19 hl (by decide) rfl (fun ls hl => ?_)
  have loop21 : ∀ (fu : Nat) (k j : Nat) (cs ss : Nat) (g1 : Nat → Option Nat) (g2 : Nat → Int32) (hk : k = cntB (fun s => decide (plc txt s ≠ s)) j) (hj : j ≤ 8) (hcs : cs ≤ 2 + 8 * j) (hss : ss ≤ 16 + 16 * j) (hg1 : ∀ u, u < j → g1 (plc txt u) = some (tad u)) (hg2 : ∀ u, u < j → g2 (plc txt u) = nI (txt u).length) (H : Heap) (locs : List Loc) (hS : va_S (gA y (y + 34) H0.size) H0 H locs) (hO : gO G y 3 [.ref (y + 1), .int (nI L.length), .ref (y + 2), .ref (y + 11), .ref (y + 12), .ref (y + 13), .ref (y + 16), .ref (y + 25), .int (nI 0)] H) (hf2 : gQ G (y + 2) 4 8 f2 H) (hf11 : gI G (y + 11) 1 8 f11 H) (hzt : gQ G zt 4 8 g1 H) (hzs : gI G zs 1 8 g2 H) (hLE : LE G y H) (hMT : MT G y T L txt tad 0 H) (ls : Array Slot), 8 - j < fu → lv_has ls 6 [(4, .int (nI j)), (3, .int (nI k)), (2, .ref zs), (1, .ref zt), (0, .ref y)] → W p l e RMX3_sort s m args below meth c H locs cs ss (XQ below args s H0 y (y + 34) 66 144 (qI (fun r H1 => r = nI (cntB (fun s => decide (plc txt s ≠ s)) 8) ∧ ∃ pm, OS txt 8 pm ∧ MW G y L (fun i => txt (pm i)) 0 H1)) xN) (F0 m 21 ls []) := by
    intro fu21
    induction fu21 with
    | zero => intro k j cs ss g1 g2 hk hj hcs hss hg1 hg2 H locs hS hO hf2 hf11 hzt hzs hLE hMT ls hmu; exact absurd hmu (Nat.not_lt_zero _)
    | succ fu21 ih21 =>
      intro k j cs ss g1 g2 hk hj hcs hss hg1 hg2 H locs hS hO hf2 hf11 hzt hzs hLE hMT ls hmu21 hl
      refine lv_iload hx hb dX3_sort_21 (lv_at hl 0 rfl) ?_
      refine lv_bipush (v := nI 8) hx hb dX3_sort_23 (by decide) ?_
      refine x_icmp_ge (tgt := 79) hx hb (by omega) (by omega) dX3_sort_25 (by decide) (fun c25 => ?_) (fun c25 => ?_)
      · obtain ⟨pm, hOS⟩ := os_ex hMT.gs 8 (Nat.le_refl _)
        have hj8 : j = 8 := by omega
        have hk8 : k = cntB (fun s => decide (plc txt s ≠ s)) 8 := by rw [hk, hj8]
        have hz1 : ∀ i, i < 8 → g1 i = some (tad (pm i)) := fun i hi => by
          have h := hg1 (pm i) (by have := hOS.1 i hi; omega)
          rw [os_plc hMT.gs hOS hi] at h
          exact h
        have hz2 : ∀ i, i < 8 → g2 i = nI (txt (pm i)).length := fun i hi => by
          have h := hg2 (pm i) (by have := hOS.1 i hi; omega)
          rw [os_plc hMT.gs hOS hi] at h
          exact h
        have hR := hMT.rows
        obtain ⟨Hs, hHs⟩ : ∃ z, z = H := ⟨_, rfl⟩
        have hMTs : MT G y T L txt tad 0 Hs := by rw [hHs]; exact hMT
        have hFs : gF (y + 2) (y + 12) Hs H := by rw [hHs]; exact gF.rf
        clear hHs hMT
        refine lv_iconst (v := nI 0) hx hb dX3_sort_79 (by decide) ?_
        refine lv_istore (lv' := [(4, .int (nI 0)), (3, .int (nI k)), (2, .ref zs), (1, .ref zt), (0, .ref y)]) hx hb dX3_sort_80 hl (by decide) rfl (fun ls hl => ?_)
        have loop82 : ∀ (fu : Nat) (j : Nat) (q1 : Nat → Option Nat) (q2 : Nat → Int32) (hj : j ≤ 8) (hq1 : ∀ u, u < j → q1 u = some (tad (pm u))) (hq2 : ∀ u, u < j → q2 u = nI (txt (pm u)).length) (H : Heap) (locs : List Loc) (hS : va_S (gA y (y + 34) H0.size) H0 H locs) (hO : gO G y 3 [.ref (y + 1), .int (nI L.length), .ref (y + 2), .ref (y + 11), .ref (y + 12), .ref (y + 13), .ref (y + 16), .ref (y + 25), .int (nI 0)] H) (hf2 : gQ G (y + 2) 4 8 q1 H) (hf11 : gI G (y + 11) 1 8 q2 H) (hzt : gQ G zt 4 8 g1 H) (hzs : gI G zs 1 8 g2 H) (hLE : LE G y H) (hR : RowsT G y T txt tad H) (hFs : gF (y + 2) (y + 12) Hs H) (ls : Array Slot), 8 - j < fu → lv_has ls 6 [(4, .int (nI j)), (3, .int (nI k)), (2, .ref zs), (1, .ref zt), (0, .ref y)] → W p l e RMX3_sort s m args below meth c H locs cs ss (XQ below args s H0 y (y + 34) 66 144 (qI (fun r H1 => r = nI (cntB (fun s => decide (plc txt s ≠ s)) 8) ∧ ∃ pm, OS txt 8 pm ∧ MW G y L (fun i => txt (pm i)) 0 H1)) xN) (F0 m 82 ls []) := by
          intro fu82
          induction fu82 with
          | zero => intro j q1 q2 hj hq1 hq2 H locs hS hO hf2 hf11 hzt hzs hLE hR hFs ls hmu; exact absurd hmu (Nat.not_lt_zero _)
          | succ fu82 ih82 =>
            intro j q1 q2 hj hq1 hq2 H locs hS hO hf2 hf11 hzt hzs hLE hR hFs ls hmu82 hl
            refine lv_iload hx hb dX3_sort_82 (lv_at hl 0 rfl) ?_
            refine lv_bipush (v := nI 8) hx hb dX3_sort_84 (by decide) ?_
            refine x_icmp_ge (tgt := 117) hx hb (by omega) (by omega) dX3_sort_86 (by decide) (fun c86 => ?_) (fun c86 => ?_)
            · refine lv_iload_n hx hb dX3_sort_117 rfl (lv_at hl 1 rfl) ?_
              exact x_iret hx hb hr hlocks h0 hS (by omega) (by omega) dX3_sort_118 (⟨by rw [hk8], pm, hOS, (hMTs.sorted hOS.1 hFs hf2 hf11 (fun i hi => (hR i hi).1) (fun i hi => hq1 i (by omega)) (fun i hi => hq2 i (by omega))).WE hLE⟩)
            · refine lv_aload_n hx hb dX3_sort_89 rfl (lv_at hl 4 rfl) ?_
              refine x_get (ci := 3) hx hb hts hown hK rfl hw1 2 (by decide) hw4 hO rfl dX3_sort_90 ?_
              refine lv_iload hx hb dX3_sort_93 (lv_at hl 0 rfl) ?_
              refine lv_aload_n hx hb dX3_sort_95 rfl (lv_at hl 3 rfl) ?_
              refine lv_iload hx hb dX3_sort_96 (lv_at hl 0 rfl) ?_
              refine x_aald (k := 4) (v := (tad (pm j))) hx hb hK (by decide) rfl hzt (by omega) (by decide) (hz1 _ (by omega)) dX3_sort_98 ?_
              obtain ⟨ft_b, hTa_b, hTf_b, hTn_b, hTc_b⟩ := (hR (pm j) (hOS.1 j (by omega))).1
              refine x_aastA hx hb hK hE hf2 hTa_b (by omega) (by decide) hS (by unfold gA; omega) dX3_sort_99 (fun H4 locs hf2 hF hz hS => ?_)
              have hO := hO.fr hF (by omega)
              have hf11 := hf11.fr hF (by omega)
              have hzt := hzt.fr hF (by omega)
              have hzs := hzs.fr hF (by omega)
              have hLE := hLE.fr hF (by omega)
              have hR := hR.fr hF (by omega)
              have hFs := hFs.trans hF (by omega)
              refine lv_aload_n hx hb dX3_sort_100 rfl (lv_at hl 4 rfl) ?_
              refine x_get (ci := 3) hx hb hts hown hK rfl hw1 3 (by decide) hw5 hO rfl dX3_sort_101 ?_
              refine lv_iload hx hb dX3_sort_104 (lv_at hl 0 rfl) ?_
              refine lv_aload_n hx hb dX3_sort_106 rfl (lv_at hl 2 rfl) ?_
              refine lv_iload hx hb dX3_sort_107 (lv_at hl 0 rfl) ?_
              refine x_iald hx hb hK hzs (by omega) (by decide) dX3_sort_109 ?_
              refine x_rw (z := (nI ((txt (pm j)).length))) (hz2 _ (by omega)) ?_
              refine x_iast hx hb hK hf11 (by omega) (by decide) hS (by unfold gA; omega) dX3_sort_110 (fun H5 locs hf11 hF hz hS => ?_)
              have hO := hO.fr hF (by omega)
              have hf2 := hf2.fr hF (by omega)
              have hzt := hzt.fr hF (by omega)
              have hzs := hzs.fr hF (by omega)
              have hLE := hLE.fr hF (by omega)
              have hR := hR.fr hF (by omega)
              have hFs := hFs.trans hF (by omega)
              refine lv_iinc (v := nI (j + 1)) (lv' := [(4, .int (nI (j + 1))), (3, .int (nI k)), (2, .ref zs), (1, .ref zt), (0, .ref y)]) hx hb dX3_sort_111 hl (k := 0) rfl (nI_1 _) (by decide) rfl (fun ls hl => ?_)
              refine lv_goto (tgt := 82) hx hb dX3_sort_114 (by decide) ?_
              exact ih82 (j + 1) (va_up q1 j (some (tad (pm j)))) (upd q2 j (nI ((txt (pm j)).length))) (by omega) (lt_s (fun a ha => by show (if a = j then _ else _) = _; rw [if_neg (by omega)]; exact hq1 a ha) (va_up_self _ _ _)) (lt_s (fun a ha => by rw [pk_un (by omega)]; exact hq2 a ha) pk_us) H5 _ hS hO hf2 hf11 hzt hzs hLE hR hFs ls (by omega) (lv_sub hl [0, 1, 2, 3, 4] rfl)
        exact loop82 _ 0 f2 f11 (by omega) lt_0 lt_0 H _ hS hO hf2 hf11 hzt hzs hLE hR hFs ls (Nat.lt_succ_self _) (lv_sub hl [0, 1, 2, 3, 4] rfl)
      · refine lv_aload_n hx hb dX3_sort_28 rfl (lv_at hl 4 rfl) ?_
        refine lv_iload hx hb dX3_sort_29 (lv_at hl 0 rfl) ?_
        refine x_goI (x_runV (As := [.int (nI j)]) (rest := []) ⟨hx, hb, hml, hown, hts⟩ hE h0 hS (c_X3_place l G y T L txt tad 0 j (by omega) H hMT hLE) (cwV 1 hts gX3_sort_X3_place rfl rfl rfl (by decide +kernel) ⟨Nat.le_of_ble_eq_true rfl, Nat.le_of_ble_eq_true rfl⟩) (gO.recv (C := RX3) hK hO rfl) (by omega) rfl rfl hl.1 rfl (lv_room (Nat.le_of_ble_eq_true rfl)) dX3_sort_31 ⟨Nat.le_trans (m := 66) (by omega) (Nat.le_of_ble_eq_true rfl), Nat.le_trans (m := 144) (by omega) (Nat.le_of_ble_eq_true rfl)⟩) hS (by omega) (fun _ _ _ _ _ h => h.elim) (fun r7 H6 locs hq hF hS => ?_)
        have hO := hO.fr hF (by omega)
        have hf2 := hf2.fr hF (by omega)
        have hf11 := hf11.fr hF (by omega)
        have hzt := hzt.fr hF (by omega)
        have hzs := hzs.fr hF (by omega)
        have hMT := hMT.fr hF (by omega)
        obtain ⟨rfl, hLE⟩ := hq
        have hp8 := plc_8 hMT.gs (x := j) (by omega)
        refine lv_istore (lv' := [(5, .int (nI (plc txt j))), (4, .int (nI j)), (3, .int (nI k)), (2, .ref zs), (1, .ref zt), (0, .ref y)]) hx hb dX3_sort_34 hl (by decide) rfl (fun ls hl => ?_)
        refine lv_aload_n hx hb dX3_sort_36 rfl (lv_at hl 4 rfl) ?_
        refine lv_iload hx hb dX3_sort_37 (lv_at hl 0 rfl) ?_
        refine lv_aload_n hx hb dX3_sort_39 rfl (lv_at hl 5 rfl) ?_
        refine x_get (ci := 3) hx hb hts hown hK rfl hw1 2 (by decide) hw4 hO rfl dX3_sort_40 ?_
        refine lv_iload hx hb dX3_sort_43 (lv_at hl 1 rfl) ?_
        refine x_aald (k := 4) (v := (tad j)) hx hb hK (by decide) rfl hf2 (by omega) (by decide) (hf2b _ (by omega)) dX3_sort_45 ?_
        obtain ⟨ft_a, hTa_a, hTf_a, hTn_a, hTc_a⟩ := (hMT.tx (i := j) (by omega))
        refine x_aastA hx hb hK hE hzt hTa_a (by omega) (by decide) hS (by unfold gA; omega) dX3_sort_46 (fun H8 locs hzt hF hz hS => ?_)
        have hO := hO.fr hF (by omega)
        have hf2 := hf2.fr hF (by omega)
        have hf11 := hf11.fr hF (by omega)
        have hzs := hzs.fr hF (by omega)
        have hLE := hLE.fr hF (by omega)
        have hMT := hMT.fr hF (by omega)
        refine lv_aload_n hx hb dX3_sort_47 rfl (lv_at hl 3 rfl) ?_
        refine lv_iload hx hb dX3_sort_48 (lv_at hl 0 rfl) ?_
        refine lv_aload_n hx hb dX3_sort_50 rfl (lv_at hl 5 rfl) ?_
        refine x_get (ci := 3) hx hb hts hown hK rfl hw1 3 (by decide) hw5 hO rfl dX3_sort_51 ?_
        refine lv_iload hx hb dX3_sort_54 (lv_at hl 1 rfl) ?_
        refine x_iald hx hb hK hf11 (by omega) (by decide) dX3_sort_56 ?_
        refine x_rw (z := (nI ((txt j).length))) (hf11b _ (by omega)) ?_
        refine x_iast hx hb hK hzs (by omega) (by decide) hS (by unfold gA; omega) dX3_sort_57 (fun H9 locs hzs hF hz hS => ?_)
        have hO := hO.fr hF (by omega)
        have hf2 := hf2.fr hF (by omega)
        have hf11 := hf11.fr hF (by omega)
        have hzt := hzt.fr hF (by omega)
        have hLE := hLE.fr hF (by omega)
        have hMT := hMT.fr hF (by omega)
        refine lv_iload_n hx hb dX3_sort_58 rfl (lv_at hl 2 rfl) ?_
        refine lv_iload hx hb dX3_sort_59 (lv_at hl 0 rfl) ?_
        refine lv_iload hx hb dX3_sort_61 (lv_at hl 1 rfl) ?_
        refine x_icmp_eq (tgt := 70) hx hb (by omega) (by omega) dX3_sort_63 (by decide) (fun c63 => ?_) (fun c63 => ?_)
        · have hk2 : k = cntB (fun s => decide (plc txt s ≠ s)) (j + 1) := by rw [cntB_f (by exact decide_eq_false (fun g => g c63))]; exact hk
          refine lv_iconst (v := nI 0) hx hb dX3_sort_70 (by decide) ?_
          refine lv_iadd hx hb dX3_sort_71 ?_
          refine x_rw (z := nI (k + 0)) (nI_add _ _) ?_
          refine lv_istore_n (lv' := [(3, .int (nI (k + 0))), (5, .int (nI (plc txt j))), (4, .int (nI j)), (2, .ref zs), (1, .ref zt), (0, .ref y)]) hx hb dX3_sort_72 rfl hl (by decide) rfl (fun ls hl => ?_)
          refine lv_iinc (v := nI (j + 1)) (lv' := [(4, .int (nI (j + 1))), (3, .int (nI (k + 0))), (5, .int (nI (plc txt j))), (2, .ref zs), (1, .ref zt), (0, .ref y)]) hx hb dX3_sort_73 hl (k := 2) rfl (nI_1 _) (by decide) rfl (fun ls hl => ?_)
          refine lv_goto (tgt := 21) hx hb dX3_sort_76 (by decide) ?_
          exact ih21 (k + 0) (j + 1) (cs + 8) (ss + 16) (va_up g1 (plc txt j) (some (tad j))) (upd g2 (plc txt j) (nI ((txt j).length))) hk2 (by omega) (by omega) (by omega) (srt_q hMT.gs (by omega) hg1) (srt_i hMT.gs (by omega) hg2) H9 _ hS hO hf2 hf11 hzt hzs hLE hMT ls (by omega) (lv_sub hl [0, 1, 3, 4, 5] rfl)
        · have hk2 : k + 1 = cntB (fun s => decide (plc txt s ≠ s)) (j + 1) := by rw [cntB_t (by exact decide_eq_true c63)]; rw [hk]
          refine lv_iconst (v := nI 1) hx hb dX3_sort_66 (by decide) ?_
          refine lv_goto (tgt := 71) hx hb dX3_sort_67 (by decide) ?_
          refine lv_iadd hx hb dX3_sort_71 ?_
          refine x_rw (z := nI (k + 1)) (nI_add _ _) ?_
          refine lv_istore_n (lv' := [(3, .int (nI (k + 1))), (5, .int (nI (plc txt j))), (4, .int (nI j)), (2, .ref zs), (1, .ref zt), (0, .ref y)]) hx hb dX3_sort_72 rfl hl (by decide) rfl (fun ls hl => ?_)
          refine lv_iinc (v := nI (j + 1)) (lv' := [(4, .int (nI (j + 1))), (3, .int (nI (k + 1))), (5, .int (nI (plc txt j))), (2, .ref zs), (1, .ref zt), (0, .ref y)]) hx hb dX3_sort_73 hl (k := 2) rfl (nI_1 _) (by decide) rfl (fun ls hl => ?_)
          refine lv_goto (tgt := 21) hx hb dX3_sort_76 (by decide) ?_
          exact ih21 (k + 1) (j + 1) (cs + 8) (ss + 16) (va_up g1 (plc txt j) (some (tad j))) (upd g2 (plc txt j) (nI ((txt j).length))) hk2 (by omega) (by omega) (by omega) (srt_q hMT.gs (by omega) hg1) (srt_i hMT.gs (by omega) hg2) H9 _ hS hO hf2 hf11 hzt hzs hLE hMT ls (by omega) (lv_sub hl [0, 1, 3, 4, 5] rfl)
  exact loop21 _ 0 0 (0 + 1 + 1) (0 + 8 + 8) (fun _ => none) (fun _ => nI 0) rfl (by omega) (by omega) (by omega) lt_0 lt_0 H3 _ hS hO hf2 hf11 hzt hzs hLE hMT ls (Nat.lt_succ_self _) (lv_sub hl [0, 1, 2, 3, 4] rfl)
