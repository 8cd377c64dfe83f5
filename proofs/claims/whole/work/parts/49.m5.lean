abbrev RMX3_begin : Room := { frames := 3, cells := 0, slots := 0, locals := 60 }
set_option maxHeartbeats 4000000 in
set_option maxRecDepth 100000 in
theorem c_X3_begin (l : Launch) (G : gG) (y : Nat) (L : List Nat) (txt : Nat → List Nat) (th : Int32) (n z : Int32) (H0 : Heap) (hMW : MW G y L txt th H0) : XM l yX3_begin wsX3_begin RMX3_begin G [.ref y, .int n, .int z] H0 y (y + 34) 0 0 (qI (fun r H1 => ((okN 1000000 n ∧ okN 4 z) ∧ r = nI (num (ix n) (ix z)).length ∧ MW G y (num (ix n) (ix z)) txt 0 H1) ∨ (¬ (okN 1000000 n ∧ okN 4 z) ∧ MW G y L txt (nI 1) H1))) xN := by
  refine x_ofW (cc := cX3_begin) (maxL := 3) (ret := (some .int)) (by decide) rfl (Nat.le_of_ble_eq_true rfl) ?_
  intro p e s m below meth c hx hb hr hml hown hts hlocks hout hin2 h0 hE ls hl
  replace hown : s.vm.findClass RX3 = some m.cls := hown
  have hK := hE.1
  have hS : va_S (gA y (y + 34) H0.size) H0 H0 [] := va_S.rf
  generalize hargs : ([.ref y, .int n, .int z] : List Value).toArray = args at hts ⊢
  have hw0 := hts (.constant RX3 83 (999999)) (by decide +kernel)
  have hw1 := hts (.fieldLink RX3 9 "ReleaseledgerModel" "draft" "[C") (by decide +kernel)
  have hw2 : ∀ w ∈ u_ws RX3 TX3 9, w ∈ wsX3_begin := by decide +kernel
  have hw3 := hts (.fieldLink RX3 92 "ReleaseledgerModel" "draftSize" "I") (by decide +kernel)
  have hl : lv_has ls 3 [(0, .ref y), (1, .int n), (2, .int z)] := hl
  obtain ⟨tad, w, hMT, hLA⟩ := hMW
  generalize hTe : H0.size = T at hMT
  obtain ⟨hO, hTd, ⟨f2, hf2, hf2b⟩, ⟨f11, hf11, hf11b⟩, htx, hLd, hyT, hTs⟩ := id hMT
  have hTd0 := hTd
  obtain ⟨fd, hD, hDf, hDn, hDc⟩ := hTd
  have hTe2 : T = H0.size := hTe.symm
  refine lv_aload_n hx hb dX3_begin_0 rfl (lv_at hl 0 rfl) ?_
  refine lv_iload_n hx hb dX3_begin_1 rfl (lv_at hl 1 rfl) ?_
  refine lv_iconst (v := nI 0) hx hb dX3_begin_2 (by decide) ?_
  refine lv_ldc hx hb hown hw0 dX3_begin_3 ?_
  refine x_rw (z := nI 999999) (by decide) ?_
  refine x_goI_ro (x_runS (As := [.int n, .int (nI 0), .int (nI 999999)]) (rest := [.ref y]) ⟨hx, hb, hml, hown, hts⟩ hE h0 hS (c_X3_in l G n (nI 0) (nI 999999) H0) (va_cwS 3 hts gX3_begin_X3_in rfl rfl rfl (by decide +kernel) ⟨Nat.le_of_ble_eq_true rfl, Nat.le_of_ble_eq_true rfl⟩) (by omega) rfl rfl hl.1 rfl (lv_room (Nat.le_of_ble_eq_true rfl)) dX3_begin_5 ⟨by first | exact Nat.le_of_ble_eq_true rfl | omega, by first | exact Nat.le_of_ble_eq_true rfl | omega⟩) hS (by omega) (fun _ _ _ _ _ h => h.elim) (fun locs hq hS => ?_)
  refine x_if_eqB (tgt := 24) hx hb dX3_begin_8 (by decide) (fun c8 => ?_) (fun c8 => ?_)
  · refine lv_iconst (v := nI 0) hx hb dX3_begin_24 (by decide) ?_
    refine x_rw (z := bI false) (by decide) ?_
    refine lv_iconst (v := nI 1) hx hb dX3_begin_25 (by decide) ?_
    refine x_goI (x_runV (As := [.int (bI false), .int (nI 1)]) (rest := []) ⟨hx, hb, hml, hown, hts⟩ hE h0 hS (c_X3_no l G y (nI L.length) th false 1 H0 hO) (cwV 2 hts gX3_begin_X3_no rfl rfl rfl (by decide +kernel) ⟨Nat.le_of_ble_eq_true rfl, Nat.le_of_ble_eq_true rfl⟩) (gO.recv (C := RX3) hK hO rfl) (by omega) rfl rfl hl.1 rfl (lv_room (Nat.le_of_ble_eq_true rfl)) dX3_begin_26 ⟨by first | exact Nat.le_of_ble_eq_true rfl | omega, by first | exact Nat.le_of_ble_eq_true rfl | omega⟩) hS (by omega) (fun _ _ _ _ _ h => h.elim) (fun r3 H2 locs hq hF hS => ?_)
    have hf2 := hf2.fr hF (by omega)
    have hf11 := hf11.fr hF (by omega)
    have hD := hD.fr hF (by omega)
    have hLA := hLA.fr hF (by omega)
    obtain ⟨hr_, hOn⟩ := hq
    refine x_rw (z := bI true) hr_ ?_
    replace hOn : MO G y (nI L.length) (nI 1) H2 := hOn
    have hMT := hMT.setO hF hOn
    have hO := hOn
    refine x_if_eqB (tgt := 34) hx hb dX3_begin_29 (by decide) (fun c29 => ?_) (fun c29 => ?_)
    · exact absurd c29 (by decide)
    · refine lv_iconst (v := nI 0) hx hb dX3_begin_32 (by decide) ?_
      exact x_iret hx hb hr hlocks h0 hS (by omega) (by omega) dX3_begin_33 (Or.inr ⟨fun h => by first | exact inB_no c8 (inB_okN (n := 999999) (by decide)) h.1 | exact inB_no c17 (inB_okN (n := 3) (by decide)) h.2, hMT.W hLA⟩)
  · refine lv_iload_n hx hb dX3_begin_11 rfl (lv_at hl 2 rfl) ?_
    refine lv_iconst (v := nI 0) hx hb dX3_begin_12 (by decide) ?_
    refine lv_iconst (v := nI 3) hx hb dX3_begin_13 (by decide) ?_
    refine x_goI_ro (x_runS (As := [.int z, .int (nI 0), .int (nI 3)]) (rest := [.ref y]) ⟨hx, hb, hml, hown, hts⟩ hE h0 hS (c_X3_in l G z (nI 0) (nI 3) H0) (va_cwS 3 hts gX3_begin_X3_in rfl rfl rfl (by decide +kernel) ⟨Nat.le_of_ble_eq_true rfl, Nat.le_of_ble_eq_true rfl⟩) (by omega) rfl rfl hl.1 rfl (lv_room (Nat.le_of_ble_eq_true rfl)) dX3_begin_14 ⟨by first | exact Nat.le_of_ble_eq_true rfl | omega, by first | exact Nat.le_of_ble_eq_true rfl | omega⟩) hS (by omega) (fun _ _ _ _ _ h => h.elim) (fun locs hq hS => ?_)
    refine x_if_eqB (tgt := 24) hx hb dX3_begin_17 (by decide) (fun c17 => ?_) (fun c17 => ?_)
    · refine lv_iconst (v := nI 0) hx hb dX3_begin_24 (by decide) ?_
      refine x_rw (z := bI false) (by decide) ?_
      refine lv_iconst (v := nI 1) hx hb dX3_begin_25 (by decide) ?_
      refine x_goI (x_runV (As := [.int (bI false), .int (nI 1)]) (rest := []) ⟨hx, hb, hml, hown, hts⟩ hE h0 hS (c_X3_no l G y (nI L.length) th false 1 H0 hO) (cwV 2 hts gX3_begin_X3_no rfl rfl rfl (by decide +kernel) ⟨Nat.le_of_ble_eq_true rfl, Nat.le_of_ble_eq_true rfl⟩) (gO.recv (C := RX3) hK hO rfl) (by omega) rfl rfl hl.1 rfl (lv_room (Nat.le_of_ble_eq_true rfl)) dX3_begin_26 ⟨by first | exact Nat.le_of_ble_eq_true rfl | omega, by first | exact Nat.le_of_ble_eq_true rfl | omega⟩) hS (by omega) (fun _ _ _ _ _ h => h.elim) (fun r6 H5 locs hq hF hS => ?_)
      have hf2 := hf2.fr hF (by omega)
      have hf11 := hf11.fr hF (by omega)
      have hD := hD.fr hF (by omega)
      have hLA := hLA.fr hF (by omega)
      obtain ⟨hr_, hOn⟩ := hq
      refine x_rw (z := bI true) hr_ ?_
      replace hOn : MO G y (nI L.length) (nI 1) H5 := hOn
      have hMT := hMT.setO hF hOn
      have hO := hOn
      refine x_if_eqB (tgt := 34) hx hb dX3_begin_29 (by decide) (fun c29 => ?_) (fun c29 => ?_)
      · exact absurd c29 (by decide)
      · refine lv_iconst (v := nI 0) hx hb dX3_begin_32 (by decide) ?_
        exact x_iret hx hb hr hlocks h0 hS (by omega) (by omega) dX3_begin_33 (Or.inr ⟨fun h => by first | exact inB_no c8 (inB_okN (n := 999999) (by decide)) h.1 | exact inB_no c17 (inB_okN (n := 3) (by decide)) h.2, hMT.W hLA⟩)
    · refine lv_iconst (v := nI 1) hx hb dX3_begin_20 (by decide) ?_
      refine lv_goto (tgt := 25) hx hb dX3_begin_21 (by decide) ?_
      refine x_rw (z := bI true) (by decide) ?_
      refine lv_iconst (v := nI 1) hx hb dX3_begin_25 (by decide) ?_
      refine x_goI (x_runV (As := [.int (bI true), .int (nI 1)]) (rest := []) ⟨hx, hb, hml, hown, hts⟩ hE h0 hS (c_X3_no l G y (nI L.length) th true 1 H0 hO) (cwV 2 hts gX3_begin_X3_no rfl rfl rfl (by decide +kernel) ⟨Nat.le_of_ble_eq_true rfl, Nat.le_of_ble_eq_true rfl⟩) (gO.recv (C := RX3) hK hO rfl) (by omega) rfl rfl hl.1 rfl (lv_room (Nat.le_of_ble_eq_true rfl)) dX3_begin_26 ⟨by first | exact Nat.le_of_ble_eq_true rfl | omega, by first | exact Nat.le_of_ble_eq_true rfl | omega⟩) hS (by omega) (fun _ _ _ _ _ h => h.elim) (fun r8 H7 locs hq hF hS => ?_)
      have hf2 := hf2.fr hF (by omega)
      have hf11 := hf11.fr hF (by omega)
      have hD := hD.fr hF (by omega)
      have hLA := hLA.fr hF (by omega)
      obtain ⟨hr_, hOn⟩ := hq
      refine x_rw (z := bI false) hr_ ?_
      replace hOn : MO G y (nI L.length) 0 H7 := hOn
      have hMT := hMT.setO hF hOn
      have hO := hOn
      refine x_if_eqB (tgt := 34) hx hb dX3_begin_29 (by decide) (fun c29 => ?_) (fun c29 => ?_)
      · obtain ⟨n1, hn1, rfl⟩ := (inB_okN (n := 999999) (by decide)).mp c8
        obtain ⟨z1, hz1, rfl⟩ := (inB_okN (n := 3) (by decide)).mp c17
        have hd9 := dgs_lo (n := n1) (by omega)
        refine lv_aload_n hx hb dX3_begin_34 rfl (lv_at hl 0 rfl) ?_
        refine lv_aload_n hx hb dX3_begin_35 rfl (lv_at hl 0 rfl) ?_
        refine x_get (ci := 3) hx hb hts hown hK rfl hw2 0 (by decide) hw1 hO rfl dX3_begin_36 ?_
        refine lv_iconst (v := nI 0) hx hb dX3_begin_39 (by decide) ?_
        refine lv_iload_n hx hb dX3_begin_40 rfl (lv_at hl 1 rfl) ?_
        refine lv_iload_n hx hb dX3_begin_41 rfl (lv_at hl 2 rfl) ?_
        refine x_goI (x_runS (As := [.ref (y + 1), .int (nI 0), .int (nI n1), .int (nI z1)]) (rest := [.ref y]) ⟨hx, hb, hml, hown, hts⟩ hE h0 hS (c_X3_digits l G (y + 1) 0 n1 z1 fd (by omega) (by omega) (by omega) H7 hD) (va_cwS 4 hts gX3_begin_X3_digits rfl rfl rfl (by decide +kernel) ⟨Nat.le_of_ble_eq_true rfl, Nat.le_of_ble_eq_true rfl⟩) (by omega) rfl rfl hl.1 rfl (lv_room (Nat.le_of_ble_eq_true rfl)) dX3_begin_42 ⟨by first | exact Nat.le_of_ble_eq_true rfl | omega, by first | exact Nat.le_of_ble_eq_true rfl | omega⟩) hS (by omega) (fun _ _ _ _ _ h => h.elim) (fun r10 H9 locs hq hF hS => ?_)
        have hf2 := hf2.fr hF (by omega)
        have hf11 := hf11.fr hF (by omega)
        have hO := hO.fr hF (by omega)
        have hLA := hLA.fr hF (by omega)
        obtain ⟨hr_, fd2, hD2, -, hd2⟩ := hq
        have hFd := hF
        have hMT0 := hMT
        refine x_rw (z := nI (num n1 z1).length) (by rw [hr_, num_len]; exact congrArg nI (by omega)) ?_
        refine x_put (ci := 3) hx hb hts hown hK rfl hw2 tyX3_ok nmX3 1 (by decide) hw3 rfl (tyX3_ok 1 (by decide)) rfl rfl hO (Nat.le_of_ble_eq_true rfl) hS (by unfold gA; omega) dX3_begin_45 (fun H11 locs hO hF hz hS => ?_)
        have hO : gO G y 3 [.ref (y + 1), .int (nI ((num n1 z1).length)), .ref (y + 2), .ref (y + 11), .ref (y + 12), .ref (y + 13), .ref (y + 16), .ref (y + 25), .int 0] H11 := hO
        have hf2 := hf2.fr hF (by omega)
        have hf11 := hf11.fr hF (by omega)
        have hD2 := hD2.fr hF (by omega)
        have hLA := hLA.fr hF (by omega)
        have hMT2 := hMT0.setD ((hFd.widen (by omega) : gF y (y + 2) _ _).trans hF (by omega)) hO (TA_mk hD2 (fun i hi => by have := hd2 i (by rw [num_len] at hi; exact hi); rw [Nat.zero_add] at this; exact this) (Gt_begin (by omega) (by omega))) (Or.inr (Gt_begin (by omega) (by omega)))
        refine lv_aload_n hx hb dX3_begin_48 rfl (lv_at hl 0 rfl) ?_
        refine x_get (ci := 3) hx hb hts hown hK rfl hw2 1 (by decide) hw3 hO rfl dX3_begin_49 ?_
        exact x_iret hx hb hr hlocks h0 hS (by omega) (by omega) dX3_begin_52 (Or.inl ⟨⟨⟨n1, hn1, rfl⟩, z1, hz1, rfl⟩, by rw [ix_N (by omega), ix_N (by omega)], by rw [ix_N (by omega), ix_N (by omega)]; exact hMT2.W hLA⟩)
      · exact absurd c29 (by decide)
