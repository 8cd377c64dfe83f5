abbrev RMX3_begin : Room := { frames := 3, cells := 0, slots := 0, locals := 60 }
set_option maxHeartbeats 4000000 in
set_option maxRecDepth 100000 in
theorem c_X3_begin (l : Launch) (G : gG) (y : Nat) (L : List Nat) (txt : Nat → List Nat) (th : Int32) (n z : Int32) (H0 : Heap) (hMW : MW G y L txt th H0) : XM l yX3_begin wsX3_begin RMX3_begin G [.ref y, .int n, .int z] H0 y (y + 34) 0 0 (qI (fun r H1 => MR G y (rs1 (okN 1000000 n ∧ okN 4 z)) (r = nI (num (ix n) (ix z)).length) (num (ix n) (ix z)) L txt txt H1)) xN := by
  refine x_ofW (cc := cX3_begin) (maxL := 3) (ret := (some .int)) (by decide) rfl (Nat.le_of_ble_eq_true rfl) ?_
  intro p e s m below meth c hx hb hr hml hown hts hlocks hout hin2 h0 hE ls hl
  replace hown : s.vm.findClass RX3 = some m.cls := hown
  have hK := hE.1
  have hS : va_S (gA y (y + 34) H0.size) H0 H0 [] := va_S.rf
  generalize hargs : ([.ref y, .int n, .int z] : List Value).toArray = args at hts ⊢
  have hw0 := hts (.constant RX3 83 (999999)) (by decide +kernel)
  have hw1 := hts (.fieldLink RX3 9 "ReleaseledgerModel" "draft" "[C") (by decide +kernel)
  have hw2 : ∀ w ∈ u_ws RX3 TX3 9, w ∈ wsX3_begin := by decide +kernel
  have hw3 := hts (.fieldLink RX3 92 "ReleaseledgerModel" "draftSize" "I") (by decide +kernel)
  have hl : lv_has ls 3 [(0, .ref y), (1, .int n), (2, .int z)] := hl
  obtain ⟨tad, w, hMT, hLA⟩ := hMW
  generalize hTe : H0.size = T at hMT
  obtain ⟨hO, hTd, ⟨f2, hf2, hf2b⟩, ⟨f11, hf11, hf11b⟩, htx, hLd, hyT, hTs⟩ := id hMT
  have hTd0 := hTd
  obtain ⟨fd, hD, hDf, hDn, hDc⟩ := hTd
  have hTe2 : T = H0.size := hTe.symm
  refine lv_aload_n hx hb dX3_begin_0 rfl (lv_at hl 0 rfl) ?_
  refine lv_iload_n hx hb dX3_begin_1 rfl (lv_at hl 1 rfl) ?_
  refine lv_iconst (v := nI 0) hx hb dX3_begin_2 (by decide) ?_
  refine lv_ldc hx hb hown hw0 dX3_begin_3 ?_
  refine x_rw (z := nI 999999) (by decide) ?_
  refine x_goI_ro (x_runS (As := [.int n, .int (nI 0), .int (nI 999999)]) (rest := [.ref y]) ⟨hx, hb, hml, hown, hts⟩ hE h0 hS (c_X3_in l G n (nI 0) (nI 999999) H0) (va_cwS 3 hts gX3_begin_X3_in rfl rfl rfl (by decide +kernel) ⟨Nat.le_of_ble_eq_true rfl, Nat.le_of_ble_eq_true rfl⟩) (by omega) rfl rfl hl.1 rfl (lv_room (Nat.le_of_ble_eq_true rfl)) dX3_begin_5 ⟨by first | exact Nat.le_of_ble_eq_true rfl | omega, by first | exact Nat.le_of_ble_eq_true rfl | omega⟩) hS (by omega) (fun _ _ _ _ _ h => h.elim) (fun locs hq hS => ?_)
  refine x_if_eqB (tgt := 24) hx hb dX3_begin_8 (by decide) (fun c8 => ?_) (fun c8 => ?_)
  · refine lv_iconst (v := nI 0) hx hb dX3_begin_24 (by decide) ?_
    refine x_rw (z := bI false) (by decide) ?_
    refine lv_iconst (v := nI 1) hx hb dX3_begin_25 (by decide) ?_
    refine x_goI (x_runV (As := [.int (bI false), .int (nI 1)]) (rest := []) ⟨hx, hb, hml, hown, hts⟩ hE h0 hS (c_X3_no l G y (nI L.length) th false 1 H0 hO) (cwV 2 hts gX3_begin_X3_no rfl rfl rfl (by decide +kernel) ⟨Nat.le_of_ble_eq_true rfl, Nat.le_of_ble_eq_true rfl⟩) (gO.recv (C := RX3) hK hO rfl) (by omega) rfl rfl hl.1 rfl (lv_room (Nat.le_of_ble_eq_true rfl)) dX3_begin_26 ⟨by first | exact Nat.le_of_ble_eq_true rfl | omega, by first | exact Nat.le_of_ble_eq_true rfl | omega⟩) hS (by omega) (fun _ _ _ _ _ h => h.elim) (fun r3 H2 locs hq hF hS => ?_)
    have hf2 := hf2.fr hF (by omega)
    have hf11 := hf11.fr hF (by omega)
    have hD := hD.fr hF (by omega)
    have hLA := hLA.fr hF (by omega)
    obtain ⟨hr_, hOn⟩ := hq
    refine x_rw (z := bI true) hr_ ?_
    replace hOn : MO G y (nI L.length) (nI 1) H2 := hOn
    have hMT := hMT.setO hF hOn
    have hO := hOn
    refine x_if_eqB (tgt := 34) hx hb dX3_begin_29 (by decide) (fun c29 => ?_) (fun c29 => ?_)
    · exact absurd c29 (by decide)
    · refine lv_iconst (v := nI 0) hx hb dX3_begin_32 (by decide) ?_
      exact x_iret hx hb hr hlocks h0 hS (by omega) (by omega) dX3_begin_33 (MR.no n10 (rs1_1 (fun h => by first | exact inB_no c8 (inB_okN (n := 999999) (by decide)) h.1 | exact inB_no c17 (inB_okN (n := 3) (by decide)) h.2)) (hMT.W hLA))
  · refine lv_iload_n hx hb dX3_begin_11 rfl (lv_at hl 2 rfl) ?_
    refine lv_iconst (v := nI 0) hx hb dX3_begin_12 (by decide) ?_
    refine lv_iconst (v := nI 3) hx hb dX3_begin_13 (by decide) ?_
    refine x_goI_ro (x_runS (As := [.int z, .int (nI 0), .int (nI 3)]) (rest := [.ref y]) ⟨hx, hb, hml, hown, hts⟩ hE h0 hS (c_X3_in l G z (nI 0) (nI 3) H0) (va_cwS 3 hts gX3_begin_X3_in rfl rfl rfl (by decide +kernel) ⟨Nat.le_of_ble_eq_true rfl, Nat.le_of_ble_eq_true rfl⟩) (by omega) rfl rfl hl.1 rfl (lv_room (Nat.le_of_ble_eq_true rfl)) dX3_begin_14 ⟨by first | exact Nat.le_of_ble_eq_true rfl | omega, by first | exact Nat.le_of_ble_eq_true rfl | omega⟩) hS (by omega) (fun _ _ _ _ _ h => h.elim) (fun locs hq hS => ?_)
    refine x_if_eqB (tgt := 24) hx hb dX3_begin_17 (by decide) (fun c17 => ?_) (fun c17 => ?_)
    · refine lv_iconst (v := nI 0) hx hb dX3_begin_24 (by decide) ?_
      refine x_rw (z := bI false) (by decide) ?_
      refine lv_iconst (v := nI 1) hx hb dX3_begin_25 (by decide) ?_
      refine x_goI (x_runV (As := [.int (bI false), .int (nI 1)]) (rest := []) ⟨hx, hb, hml, hown, hts⟩ hE h0 hS (c_X3_no l G y (nI L.length) th false 1 H0 hO) (cwV 2 hts gX3_begin_X3_no rfl rfl rfl (by decide +kernel) ⟨Nat.le_of_ble_eq_true rfl, Nat.le_of_ble_eq_true rfl⟩) (gO.recv (C := RX3) hK hO rfl) (by omega) rfl rfl hl.1 rfl (lv_room (Nat.le_of_ble_eq_true rfl)) dX3_begin_26 ⟨by first | exact Nat.le_of_ble_eq_true rfl | omega, by first | exact Nat.le_of_ble_eq_true rfl | omega⟩) hS (by omega) (fun _ _ _ _ _ h => h.elim) (fun r6 H5 locs hq hF hS => ?_)
      have hf2 := hf2.fr hF (by omega)
      have hf11 := hf11.fr hF (by omega)
      have hD := hD.fr hF (by omega)
      have hLA := hLA.fr hF (by omega)
      obtain ⟨hr_, hOn⟩ := hq
      refine x_rw (z := bI true) hr_ ?_
      replace hOn : MO G y (nI L.length) (nI 1) H5 := hOn
      have hMT := hMT.setO hF hOn
      have hO := hOn
      refine x_if_eqB (tgt := 34) hx hb dX3_begin_29 (by decide) (fun c29 => ?_) (fun c29 => ?_)
      · exact absurd c29 (by decide)
      · refine lv_iconst (v := nI 0) hx hb dX3_begin_32 (by decide) ?_
        exact x_iret hx hb hr hlocks h0 hS (by omega) (by omega) dX3_begin_33 (MR.no n10 (rs1_1 (fun h => by first | exact inB_no c8 (inB_okN (n := 999999) (by decide)) h.1 | exact inB_no c17 (inB_okN (n := 3) (by decide)) h.2)) (hMT.W hLA))
    · refine lv_iconst (v := nI 1) hx hb dX3_begin_20 (by decide) ?_
      refine lv_goto (tgt := 25) hx hb dX3_begin_21 (by decide) ?_
      refine x_rw (z := bI true) (by decide) ?_
      refine lv_iconst (v := nI 1) hx hb dX3_begin_25 (by decide) ?_
      refine x_goI (x_runV (As := [.int (bI true), .int (nI 1)]) (rest := []) ⟨hx, hb, hml, hown, hts⟩ hE h0 hS (c_X3_no l G y (nI L.length) th true 1 H0 hO) (cwV 2 hts gX3_begin_X3_no rfl rfl rfl (by decide +kernel) ⟨Nat.le_of_ble_eq_true rfl, Nat.le_of_ble_eq_true rfl⟩) (gO.recv (C := RX3) hK hO rfl) (by omega) rfl rfl hl.1 rfl (lv_room (Nat.le_of_ble_eq_true rfl)) dX3_begin_26 ⟨by first | exact Nat.le_of_ble_eq_true rfl | omega, by first | exact Nat.le_of_ble_eq_true rfl | omega⟩) hS (by omega) (fun _ _ _ _ _ h => h.elim) (fun r8 H7 locs hq hF hS => ?_)
      have hf2 := hf2.fr hF (by omega)
      have hf11 := hf11.fr hF (by omega)
      have hD := hD.fr hF (by omega)
      have hLA := hLA.fr hF (by omega)
      obtain ⟨hr_, hOn⟩ := hq
      refine x_rw (z := bI false) hr_ ?_
      replace hOn : MO G y (nI L.length) 0 H7 := hOn
      have hMT := hMT.setO hF hOn
      have hO := hOn
      refine x_if_eqB (tgt := 34) hx hb dX3_begin_29 (by decide) (fun c29 => ?_) (fun c29 => ?_)
      · obtain ⟨n1, hn1, rfl⟩ := (inB_okN (n := 999999) (by decide)).mp c8
        obtain ⟨z1, hz1, rfl⟩ := (inB_okN (n := 3) (by decide)).mp c17
        have hd9 := dgs_lo (n := n1) (by omega)
        refine lv_aload_n hx hb dX3_begin_34 rfl (lv_at hl 0 rfl) ?_
        refine lv_aload_n hx hb dX3_begin_35 rfl (lv_at hl 0 rfl) ?_
        refine x_get (ci := 3) hx hb hts hown hK rfl hw2 0 (by decide) hw1 hO rfl dX3_begin_36 ?_
        refine lv_iconst (v := nI 0) hx hb dX3_begin_39 (by decide) ?_
        refine lv_iload_n hx hb dX3_begin_40 rfl (lv_at hl 1 rfl) ?_
        refine lv_iload_n hx hb dX3_begin_41 rfl (lv_at hl 2 rfl) ?_
        refine x_goI (x_runS (As := [.ref (y + 1), .int (nI 0), .int (nI n1), .int (nI z1)]) (rest := [.ref y]) ⟨hx, hb, hml, hown, hts⟩ hE h0 hS (c_X3_digits l G (y + 1) 0 n1 z1 fd (by omega) (by omega) (by omega) H7 hD) (va_cwS 4 hts gX3_begin_X3_digits rfl rfl rfl (by decide +kernel) ⟨Nat.le_of_ble_eq_true rfl, Nat.le_of_ble_eq_true rfl⟩) (by omega) rfl rfl hl.1 rfl (lv_room (Nat.le_of_ble_eq_true rfl)) dX3_begin_42 ⟨by first | exact Nat.le_of_ble_eq_true rfl | omega, by first | exact Nat.le_of_ble_eq_true rfl | omega⟩) hS (by omega) (fun _ _ _ _ _ h => h.elim) (fun r10 H9 locs hq hF hS => ?_)
        have hf2 := hf2.fr hF (by omega)
        have hf11 := hf11.fr hF (by omega)
        have hO := hO.fr hF (by omega)
        have hLA := hLA.fr hF (by omega)
        obtain ⟨hr_, fd2, hD2, -, hd2⟩ := hq
        have hFd := hF
        have hMT0 := hMT
        refine x_rw (z := nI (num n1 z1).length) (by rw [hr_, num_len]; exact congrArg nI (by omega)) ?_
        refine x_put (ci := 3) hx hb hts hown hK rfl hw2 tyX3_ok nmX3 1 (by decide) hw3 rfl (tyX3_ok 1 (by decide)) rfl rfl hO (Nat.le_of_ble_eq_true rfl) hS (by unfold gA; omega) dX3_begin_45 (fun H11 locs hO hF hz hS => ?_)
        have hO : gO G y 3 [.ref (y + 1), .int (nI ((num n1 z1).length)), .ref (y + 2), .ref (y + 11), .ref (y + 12), .ref (y + 13), .ref (y + 16), .ref (y + 25), .int 0] H11 := hO
        have hf2 := hf2.fr hF (by omega)
        have hf11 := hf11.fr hF (by omega)
        have hD2 := hD2.fr hF (by omega)
        have hLA := hLA.fr hF (by omega)
        have hMT2 := hMT0.setD ((hFd.widen (by omega) : gF y (y + 2) _ _).trans hF (by omega)) hO (TA_mk hD2 (fun i hi => by have := hd2 i (by rw [num_len] at hi; exact hi); rw [Nat.zero_add] at this; exact this) (Gt_begin (by omega) (by omega))) (Or.inr (Gt_begin (by omega) (by omega)))
        refine lv_aload_n hx hb dX3_begin_48 rfl (lv_at hl 0 rfl) ?_
        refine x_get (ci := 3) hx hb hts hown hK rfl hw2 1 (by decide) hw3 hO rfl dX3_begin_49 ?_
        exact x_iret hx hb hr hlocks h0 hS (by omega) (by omega) dX3_begin_52 (MR.ok (rs1_y ⟨⟨n1, hn1, rfl⟩, z1, hz1, rfl⟩) (by rw [ix_N (by omega), ix_N (by omega)]) (by rw [ix_N (by omega), ix_N (by omega)]; exact hMT2.W hLA))
      · exact absurd c29 (by decide)

abbrev RMX3_isJoined : Room := { frames := 2, cells := 0, slots := 0, locals := 32 }
set_option maxHeartbeats 4000000 in
set_option maxRecDepth 100000 in
theorem c_X3_isJoined (l : Launch) (G : gG) (y : Nat) (L : List Nat) (th : Int32) (bn : Bool) (h k n : Nat) (hk12 : (bn = true ∧ k = 1) ∨ (bn = false ∧ k = 2)) (hn31 : n < 1000) (hh16 : h < 65536) (hLd : L = [] ∨ Gt L) (H0 : Heap) (hO : MO G y (nI L.length) th H0) (hTd : TA G (y + 1) L H0) : XM l yX3_isJoined wsX3_isJoined RMX3_isJoined G [.ref y, .int (bI bn), .int (nI h), .int (nI n)] H0 0 0 0 0 (roI H0 (bI (jB L h k n)) True) xN := by
  refine x_ofW (cc := cX3_isJoined) (maxL := 6) (ret := (some .boolean)) (by decide) rfl (Nat.le_of_ble_eq_true rfl) ?_
  intro p e s m below meth c hx hb hr hml hown hts hlocks hout hin2 h0 hE ls hl
  replace hown : s.vm.findClass RX3 = some m.cls := hown
  have hK := hE.1
  have hS : va_S (gA 0 0 H0.size) H0 H0 [] := va_S.rf
  generalize hargs : ([.ref y, .int (bI bn), .int (nI h), .int (nI n)] : List Value).toArray = args at hts ⊢
  have hw0 := hts (.fieldLink RX3 92 "ReleaseledgerModel" "draftSize" "I") (by decide +kernel)
  have hw1 : ∀ w ∈ u_ws RX3 TX3 9, w ∈ wsX3_isJoined := by decide +kernel
  have hw2 := hts (.fieldLink RX3 9 "ReleaseledgerModel" "draft" "[C") (by decide +kernel)
  have hl : lv_has ls 6 [(0, .ref y), (1, .int (bI bn)), (2, .int (nI h)), (3, .int (nI n))] := hl
  obtain ⟨fd, hD, hDf, hDn, hDc⟩ := hTd
  refine lv_aload_n hx hb dX3_isJoined_0 rfl (lv_at hl 0 rfl) ?_
  refine x_get (ci := 3) hx hb hts hown hK rfl hw1 1 (by decide) hw0 hO rfl dX3_isJoined_1 ?_
  refine x_if_eqN (tgt := 30) hx hb (by omega) dX3_isJoined_4 (by decide) (fun c4 => ?_) (fun c4 => ?_)
  · refine lv_iconst (v := nI 0) hx hb dX3_isJoined_30 (by decide) ?_
    exact x_zret hx hb hr hlocks h0 hS (by omega) (by omega) dX3_isJoined_31 (by first | rfl | exact bI_nar _) (⟨rfl, jB_f (fun g => by first | exact hroom g.2.2.2 | (have := g.1; omega)), trivial⟩)
  · refine lv_aload_n hx hb dX3_isJoined_7 rfl (lv_at hl 0 rfl) ?_
    refine x_get (ci := 3) hx hb hts hown hK rfl hw1 1 (by decide) hw0 hO rfl dX3_isJoined_8 ?_
    refine lv_iload_n hx hb dX3_isJoined_11 rfl (lv_at hl 3 rfl) ?_
    refine lv_iadd hx hb dX3_isJoined_12 ?_
    refine x_rw (z := nI (L.length + n)) (nI_add _ _) ?_
    refine lv_iload_n hx hb dX3_isJoined_13 rfl (lv_at hl 2 rfl) ?_
    refine lv_bipush (v := nI 110) hx hb dX3_isJoined_14 (by decide) ?_
    refine x_icmp_ne (tgt := 23) hx hb (by omega) (by omega) dX3_isJoined_16 (by decide) (fun c16 => ?_) (fun c16 => ?_)
    · refine lv_iconst (v := nI 1) hx hb dX3_isJoined_23 (by decide) ?_
      refine lv_iadd hx hb dX3_isJoined_24 ?_
      refine x_rw (z := nI ((L.length + n) + 1)) (nI_add _ _) ?_
      refine lv_bipush (v := nI 60) hx hb dX3_isJoined_25 (by decide) ?_
      refine x_icmp_le (tgt := 32) hx hb (by omega) (by omega) dX3_isJoined_27 (by decide) (fun c27 => ?_) (fun c27 => ?_)
      · have hroom : L.length + (if h = 110 then n else 1 + n) ≤ 60 := by first | (rw [if_pos c16]; omega) | (rw [if_neg c16]; omega)
        refine lv_iconst (v := nI 0) hx hb dX3_isJoined_32 (by decide) ?_
        refine x_rw (z := bI false) (by decide) ?_
        refine lv_istore (lv' := [(4, .int (bI false)), (0, .ref y), (1, .int (bI bn)), (2, .int (nI h)), (3, .int (nI n))]) hx hb dX3_isJoined_33 hl (by decide) rfl (fun ls hl => ?_)
        refine lv_iconst (v := nI 0) hx hb dX3_isJoined_35 (by decide) ?_
        refine lv_istore (lv' := [(5, .int (nI 0)), (4, .int (bI false)), (0, .ref y), (1, .int (bI bn)), (2, .int (nI h)), (3, .int (nI n))]) hx hb dX3_isJoined_36 hl (by decide) rfl (fun ls hl => ?_)
        have loop38 : ∀ (fu : Nat) (u : Bool) (j : Nat) (hu : u = true ↔ ∃ i, i < j ∧ cg L i = 45) (hj : j ≤ L.length) (locs : List Loc) (hS : va_S (gA 0 0 H0.size) H0 H0 locs) (ls : Array Slot), L.length - j < fu → lv_has ls 6 [(5, .int (nI j)), (4, .int (bI u)), (3, .int (nI n)), (2, .int (nI h)), (1, .int (bI bn)), (0, .ref y)] → W p l e RMX3_isJoined s m args below meth c H0 locs 0 0 (XQ below args s H0 0 0 0 0 (roI H0 (bI (jB L h k n)) True) xN) (F0 m 38 ls []) := by
          intro fu38
          induction fu38 with
          | zero => intro u j hu hj locs hS  ls hmu; exact absurd hmu (Nat.not_lt_zero _)
          | succ fu38 ih38 =>
            intro u j hu hj locs hS  ls hmu38 hl
            refine lv_iload hx hb dX3_isJoined_38 (lv_at hl 0 rfl) ?_
            refine lv_aload_n hx hb dX3_isJoined_40 rfl (lv_at hl 5 rfl) ?_
            refine x_get (ci := 3) hx hb hts hown hK rfl hw1 1 (by decide) hw0 hO rfl dX3_isJoined_41 ?_
            refine x_icmp_ge (tgt := 77) hx hb (by omega) (by omega) dX3_isJoined_44 (by decide) (fun c44 => ?_) (fun c44 => ?_)
            · have hjl : j = L.length := by omega
              have hmem : u = true ↔ 45 ∈ L := hu.trans (by rw [hjl]; exact mem_cg.symm)
              refine lv_iload_n hx hb dX3_isJoined_77 rfl (lv_at hl 3 rfl) ?_
              refine lv_bipush (v := nI 110) hx hb dX3_isJoined_78 (by decide) ?_
              refine x_icmp_ne (tgt := 109) hx hb (by omega) (by omega) dX3_isJoined_80 (by decide) (fun c80 => ?_) (fun c80 => ?_)
              · refine lv_iload_n hx hb dX3_isJoined_109 rfl (lv_at hl 3 rfl) ?_
                refine lv_bipush (v := nI 43) hx hb dX3_isJoined_110 (by decide) ?_
                refine x_icmp_ne (tgt := 120) hx hb (by omega) (by omega) dX3_isJoined_112 (by decide) (fun c112 => ?_) (fun c112 => ?_)
                · refine lv_iconst (v := nI 1) hx hb dX3_isJoined_120 (by decide) ?_
                  refine lv_goto (tgt := 125) hx hb dX3_isJoined_121 (by decide) ?_
                  exact x_zret hx hb hr hlocks h0 hS (by omega) (by omega) dX3_isJoined_125 (by first | rfl | exact bI_nar _) (⟨rfl, jB_t ⟨by omega, fun g => c80 g.1, fun g => by first | exact c112 g.1 | exact g.2 (hmem.mp c117), hroom⟩, trivial⟩)
                · refine lv_iload hx hb dX3_isJoined_115 (lv_at hl 1 rfl) ?_
                  refine x_if_eqB (tgt := 124) hx hb dX3_isJoined_117 (by decide) (fun c117 => ?_) (fun c117 => ?_)
                  · refine lv_iconst (v := nI 0) hx hb dX3_isJoined_124 (by decide) ?_
                    exact x_zret hx hb hr hlocks h0 hS (by omega) (by omega) dX3_isJoined_125 (by first | rfl | exact bI_nar _) (⟨rfl, jB_f (fun g => g.2.2.1 ⟨c112, fun q => by rw [hmem.mpr q] at c117; cases c117⟩), trivial⟩)
                  · refine lv_iconst (v := nI 1) hx hb dX3_isJoined_120 (by decide) ?_
                    refine lv_goto (tgt := 125) hx hb dX3_isJoined_121 (by decide) ?_
                    exact x_zret hx hb hr hlocks h0 hS (by omega) (by omega) dX3_isJoined_125 (by first | rfl | exact bI_nar _) (⟨rfl, jB_t ⟨by omega, fun g => c80 g.1, fun g => by first | exact c112 g.1 | exact g.2 (hmem.mp c117), hroom⟩, trivial⟩)
              · exact absurd c80 c16
            · refine lv_iload hx hb dX3_isJoined_47 (lv_at hl 1 rfl) ?_
              refine x_if_neB (tgt := 64) hx hb dX3_isJoined_49 (by decide) (fun c49 => ?_) (fun c49 => ?_)
              · refine lv_iconst (v := nI 1) hx hb dX3_isJoined_64 (by decide) ?_
                refine lv_goto (tgt := 69) hx hb dX3_isJoined_65 (by decide) ?_
                refine x_rw (z := bI true) (by decide) ?_
                refine lv_istore (lv' := [(4, .int (bI true)), (5, .int (nI j)), (3, .int (nI n)), (2, .int (nI h)), (1, .int (bI bn)), (0, .ref y)]) hx hb dX3_isJoined_69 hl (by decide) rfl (fun ls hl => ?_)
                refine lv_iinc (v := nI (j + 1)) (lv' := [(5, .int (nI (j + 1))), (4, .int (bI true)), (3, .int (nI n)), (2, .int (nI h)), (1, .int (bI bn)), (0, .ref y)]) hx hb dX3_isJoined_71 hl (k := 1) rfl (nI_1 _) (by decide) rfl (fun ls hl => ?_)
                refine lv_goto (tgt := 38) hx hb dX3_isJoined_74 (by decide) ?_
                exact ih38 true (j + 1) (by first | exact ds_t2 c61 | exact ds_t1 hu c49 | exact ds_f hu c49 c61) (by omega) _ hS ls (by omega) (lv_sub hl [0, 1, 2, 3, 4, 5] rfl)
              · have hcj := hDc _ (cg_mem (L := L) (i := j) (by omega))
                refine lv_aload_n hx hb dX3_isJoined_52 rfl (lv_at hl 5 rfl) ?_
                refine x_get (ci := 3) hx hb hts hown hK rfl hw1 0 (by decide) hw2 hO rfl dX3_isJoined_53 ?_
                refine lv_iload hx hb dX3_isJoined_56 (lv_at hl 0 rfl) ?_
                refine x_cald hx hb hK hD (by omega) (by decide) dX3_isJoined_58 ?_
                refine x_rw (z := (nI (cg L j))) (hDf _ (by omega)) ?_
                refine lv_bipush (v := nI 45) hx hb dX3_isJoined_59 (by decide) ?_
                refine x_icmp_ne (tgt := 68) hx hb (by omega) (by omega) dX3_isJoined_61 (by decide) (fun c61 => ?_) (fun c61 => ?_)
                · refine lv_iconst (v := nI 0) hx hb dX3_isJoined_68 (by decide) ?_
                  refine x_rw (z := bI false) (by decide) ?_
                  refine lv_istore (lv' := [(4, .int (bI false)), (5, .int (nI j)), (3, .int (nI n)), (2, .int (nI h)), (1, .int (bI bn)), (0, .ref y)]) hx hb dX3_isJoined_69 hl (by decide) rfl (fun ls hl => ?_)
                  refine lv_iinc (v := nI (j + 1)) (lv' := [(5, .int (nI (j + 1))), (4, .int (bI false)), (3, .int (nI n)), (2, .int (nI h)), (1, .int (bI bn)), (0, .ref y)]) hx hb dX3_isJoined_71 hl (k := 1) rfl (nI_1 _) (by decide) rfl (fun ls hl => ?_)
                  refine lv_goto (tgt := 38) hx hb dX3_isJoined_74 (by decide) ?_
                  exact ih38 false (j + 1) (by first | exact ds_t2 c61 | exact ds_t1 hu c49 | exact ds_f hu c49 c61) (by omega) _ hS ls (by omega) (lv_sub hl [0, 1, 2, 3, 4, 5] rfl)
                · refine lv_iconst (v := nI 1) hx hb dX3_isJoined_64 (by decide) ?_
                  refine lv_goto (tgt := 69) hx hb dX3_isJoined_65 (by decide) ?_
                  refine x_rw (z := bI true) (by decide) ?_
                  refine lv_istore (lv' := [(4, .int (bI true)), (5, .int (nI j)), (3, .int (nI n)), (2, .int (nI h)), (1, .int (bI bn)), (0, .ref y)]) hx hb dX3_isJoined_69 hl (by decide) rfl (fun ls hl => ?_)
                  refine lv_iinc (v := nI (j + 1)) (lv' := [(5, .int (nI (j + 1))), (4, .int (bI true)), (3, .int (nI n)), (2, .int (nI h)), (1, .int (bI bn)), (0, .ref y)]) hx hb dX3_isJoined_71 hl (k := 1) rfl (nI_1 _) (by decide) rfl (fun ls hl => ?_)
                  refine lv_goto (tgt := 38) hx hb dX3_isJoined_74 (by decide) ?_
                  exact ih38 true (j + 1) (by first | exact ds_t2 c61 | exact ds_t1 hu c49 | exact ds_f hu c49 c61) (by omega) _ hS ls (by omega) (lv_sub hl [0, 1, 2, 3, 4, 5] rfl)
        exact loop38 _ false 0 ⟨fun g => (by cases g), fun ⟨i, g, _⟩ => absurd g (Nat.not_lt_zero _)⟩ (by omega) _ hS ls (Nat.lt_succ_self _) (lv_sub hl [0, 1, 5, 4, 3, 2] rfl)
      · have hroom : ¬ (L.length + (if h = 110 then n else 1 + n) ≤ 60) := by first | (rw [if_pos c16]; omega) | (rw [if_neg c16]; omega)
        refine lv_iconst (v := nI 0) hx hb dX3_isJoined_30 (by decide) ?_
        exact x_zret hx hb hr hlocks h0 hS (by omega) (by omega) dX3_isJoined_31 (by first | rfl | exact bI_nar _) (⟨rfl, jB_f (fun g => by first | exact hroom g.2.2.2 | (have := g.1; omega)), trivial⟩)
    · refine lv_iconst (v := nI 0) hx hb dX3_isJoined_19 (by decide) ?_
      refine lv_goto (tgt := 24) hx hb dX3_isJoined_20 (by decide) ?_
      refine lv_iadd hx hb dX3_isJoined_24 ?_
      refine x_rw (z := nI ((L.length + n) + 0)) (nI_add _ _) ?_
      refine lv_bipush (v := nI 60) hx hb dX3_isJoined_25 (by decide) ?_
      refine x_icmp_le (tgt := 32) hx hb (by omega) (by omega) dX3_isJoined_27 (by decide) (fun c27 => ?_) (fun c27 => ?_)
      · have hroom : L.length + (if h = 110 then n else 1 + n) ≤ 60 := by first | (rw [if_pos c16]; omega) | (rw [if_neg c16]; omega)
        refine lv_iconst (v := nI 0) hx hb dX3_isJoined_32 (by decide) ?_
        refine x_rw (z := bI false) (by decide) ?_
        refine lv_istore (lv' := [(4, .int (bI false)), (0, .ref y), (1, .int (bI bn)), (2, .int (nI h)), (3, .int (nI n))]) hx hb dX3_isJoined_33 hl (by decide) rfl (fun ls hl => ?_)
        refine lv_iconst (v := nI 0) hx hb dX3_isJoined_35 (by decide) ?_
        refine lv_istore (lv' := [(5, .int (nI 0)), (4, .int (bI false)), (0, .ref y), (1, .int (bI bn)), (2, .int (nI h)), (3, .int (nI n))]) hx hb dX3_isJoined_36 hl (by decide) rfl (fun ls hl => ?_)
        have loop38 : ∀ (fu : Nat) (u : Bool) (j : Nat) (hu : u = true ↔ ∃ i, i < j ∧ cg L i = 45) (hj : j ≤ L.length) (locs : List Loc) (hS : va_S (gA 0 0 H0.size) H0 H0 locs) (ls : Array Slot), L.length - j < fu → lv_has ls 6 [(5, .int (nI j)), (4, .int (bI u)), (3, .int (nI n)), (2, .int (nI h)), (1, .int (bI bn)), (0, .ref y)] → W p l e RMX3_isJoined s m args below meth c H0 locs 0 0 (XQ below args s H0 0 0 0 0 (roI H0 (bI (jB L h k n)) True) xN) (F0 m 38 ls []) := by
          intro fu38
          induction fu38 with
          | zero => intro u j hu hj locs hS  ls hmu; exact absurd hmu (Nat.not_lt_zero _)
          | succ fu38 ih38 =>
            intro u j hu hj locs hS  ls hmu38 hl
            refine lv_iload hx hb dX3_isJoined_38 (lv_at hl 0 rfl) ?_
            refine lv_aload_n hx hb dX3_isJoined_40 rfl (lv_at hl 5 rfl) ?_
            refine x_get (ci := 3) hx hb hts hown hK rfl hw1 1 (by decide) hw0 hO rfl dX3_isJoined_41 ?_
            refine x_icmp_ge (tgt := 77) hx hb (by omega) (by omega) dX3_isJoined_44 (by decide) (fun c44 => ?_) (fun c44 => ?_)
            · have hjl : j = L.length := by omega
              have hmem : u = true ↔ 45 ∈ L := hu.trans (by rw [hjl]; exact mem_cg.symm)
              refine lv_iload_n hx hb dX3_isJoined_77 rfl (lv_at hl 3 rfl) ?_
              refine lv_bipush (v := nI 110) hx hb dX3_isJoined_78 (by decide) ?_
              refine x_icmp_ne (tgt := 109) hx hb (by omega) (by omega) dX3_isJoined_80 (by decide) (fun c80 => ?_) (fun c80 => ?_)
              · exact absurd c16 c80
              · refine lv_aload_n hx hb dX3_isJoined_83 rfl (lv_at hl 5 rfl) ?_
                refine x_get (ci := 3) hx hb hts hown hK rfl hw1 0 (by decide) hw2 hO rfl dX3_isJoined_84 ?_
                refine lv_aload_n hx hb dX3_isJoined_87 rfl (lv_at hl 5 rfl) ?_
                refine x_get (ci := 3) hx hb hts hown hK rfl hw1 1 (by decide) hw0 hO rfl dX3_isJoined_88 ?_
                refine lv_iconst (v := nI 1) hx hb dX3_isJoined_91 (by decide) ?_
                refine lv_isub hx hb dX3_isJoined_92 ?_
                refine x_rw (z := nI (L.length - 1)) (pk_sub (by omega)) ?_
                refine x_cald hx hb hK hD (by omega) (by decide) dX3_isJoined_93 ?_
                refine x_rw (z := (nI (cg L (L.length - 1)))) (hDf _ (by omega)) ?_
                have hcl := hDc _ (cg_mem (L := L) (i := L.length - 1) (by omega))
                have hgL := hLd.resolve_left (fun g => by rw [g] at c4; exact absurd c4 (by decide))
                refine x_goI_ro (x_runS (As := [.int (nI (cg L (L.length - 1)))]) (rest := []) ⟨hx, hb, hml, hown, hts⟩ hE h0 hS (c_X3_isDigit l G (cg L (L.length - 1)) hcl H0) (va_cwS 1 hts gX3_isJoined_X3_isDigit rfl rfl rfl (by decide +kernel) ⟨Nat.le_of_ble_eq_true rfl, Nat.le_of_ble_eq_true rfl⟩) (by omega) rfl rfl hl.1 rfl (lv_room (Nat.le_of_ble_eq_true rfl)) dX3_isJoined_94 ⟨by first | exact Nat.le_of_ble_eq_true rfl | omega, by first | exact Nat.le_of_ble_eq_true rfl | omega⟩) hS (by omega) (fun _ _ _ _ _ h => h.elim) (fun locs hq hS => ?_)
                refine lv_iload_n hx hb dX3_isJoined_97 rfl (lv_at hl 4 rfl) ?_
                refine lv_icmp_eq (tgt := 105) hx hb dX3_isJoined_98 (by decide) (fun c98 => ?_) (fun c98 => ?_)
                · refine lv_iconst (v := nI 0) hx hb dX3_isJoined_105 (by decide) ?_
                  refine lv_goto (tgt := 125) hx hb dX3_isJoined_106 (by decide) ?_
                  exact x_zret hx hb hr hlocks h0 hS (by omega) (by omega) dX3_isJoined_125 (by first | rfl | exact bI_nar _) (⟨rfl, jB_f (fun g => g.2.1 ⟨c80, kd_ek hk12 (hgL.last (by omega)) c98⟩), trivial⟩)
                · refine lv_iconst (v := nI 1) hx hb dX3_isJoined_101 (by decide) ?_
                  refine lv_goto (tgt := 125) hx hb dX3_isJoined_102 (by decide) ?_
                  exact x_zret hx hb hr hlocks h0 hS (by omega) (by omega) dX3_isJoined_125 (by first | rfl | exact bI_nar _) (⟨rfl, jB_t ⟨by omega, fun g => kd_dk hk12 c98 g.2, fun g => by omega, hroom⟩, trivial⟩)
            · refine lv_iload hx hb dX3_isJoined_47 (lv_at hl 1 rfl) ?_
              refine x_if_neB (tgt := 64) hx hb dX3_isJoined_49 (by decide) (fun c49 => ?_) (fun c49 => ?_)
              · refine lv_iconst (v := nI 1) hx hb dX3_isJoined_64 (by decide) ?_
                refine lv_goto (tgt := 69) hx hb dX3_isJoined_65 (by decide) ?_
                refine x_rw (z := bI true) (by decide) ?_
                refine lv_istore (lv' := [(4, .int (bI true)), (5, .int (nI j)), (3, .int (nI n)), (2, .int (nI h)), (1, .int (bI bn)), (0, .ref y)]) hx hb dX3_isJoined_69 hl (by decide) rfl (fun ls hl => ?_)
                refine lv_iinc (v := nI (j + 1)) (lv' := [(5, .int (nI (j + 1))), (4, .int (bI true)), (3, .int (nI n)), (2, .int (nI h)), (1, .int (bI bn)), (0, .ref y)]) hx hb dX3_isJoined_71 hl (k := 1) rfl (nI_1 _) (by decide) rfl (fun ls hl => ?_)
                refine lv_goto (tgt := 38) hx hb dX3_isJoined_74 (by decide) ?_
                exact ih38 true (j + 1) (by first | exact ds_t2 c61 | exact ds_t1 hu c49 | exact ds_f hu c49 c61) (by omega) _ hS ls (by omega) (lv_sub hl [0, 1, 2, 3, 4, 5] rfl)
              · have hcj := hDc _ (cg_mem (L := L) (i := j) (by omega))
                refine lv_aload_n hx hb dX3_isJoined_52 rfl (lv_at hl 5 rfl) ?_
                refine x_get (ci := 3) hx hb hts hown hK rfl hw1 0 (by decide) hw2 hO rfl dX3_isJoined_53 ?_
                refine lv_iload hx hb dX3_isJoined_56 (lv_at hl 0 rfl) ?_
                refine x_cald hx hb hK hD (by omega) (by decide) dX3_isJoined_58 ?_
                refine x_rw (z := (nI (cg L j))) (hDf _ (by omega)) ?_
                refine lv_bipush (v := nI 45) hx hb dX3_isJoined_59 (by decide) ?_
                refine x_icmp_ne (tgt := 68) hx hb (by omega) (by omega) dX3_isJoined_61 (by decide) (fun c61 => ?_) (fun c61 => ?_)
                · refine lv_iconst (v := nI 0) hx hb dX3_isJoined_68 (by decide) ?_
                  refine x_rw (z := bI false) (by decide) ?_
                  refine lv_istore (lv' := [(4, .int (bI false)), (5, .int (nI j)), (3, .int (nI n)), (2, .int (nI h)), (1, .int (bI bn)), (0, .ref y)]) hx hb dX3_isJoined_69 hl (by decide) rfl (fun ls hl => ?_)
                  refine lv_iinc (v := nI (j + 1)) (lv' := [(5, .int (nI (j + 1))), (4, .int (bI false)), (3, .int (nI n)), (2, .int (nI h)), (1, .int (bI bn)), (0, .ref y)]) hx hb dX3_isJoined_71 hl (k := 1) rfl (nI_1 _) (by decide) rfl (fun ls hl => ?_)
                  refine lv_goto (tgt := 38) hx hb dX3_isJoined_74 (by decide) ?_
                  exact ih38 false (j + 1) (by first | exact ds_t2 c61 | exact ds_t1 hu c49 | exact ds_f hu c49 c61) (by omega) _ hS ls (by omega) (lv_sub hl [0, 1, 2, 3, 4, 5] rfl)
                · refine lv_iconst (v := nI 1) hx hb dX3_isJoined_64 (by decide) ?_
                  refine lv_goto (tgt := 69) hx hb dX3_isJoined_65 (by decide) ?_
                  refine x_rw (z := bI true) (by decide) ?_
                  refine lv_istore (lv' := [(4, .int (bI true)), (5, .int (nI j)), (3, .int (nI n)), (2, .int (nI h)), (1, .int (bI bn)), (0, .ref y)]) hx hb dX3_isJoined_69 hl (by decide) rfl (fun ls hl => ?_)
                  refine lv_iinc (v := nI (j + 1)) (lv' := [(5, .int (nI (j + 1))), (4, .int (bI true)), (3, .int (nI n)), (2, .int (nI h)), (1, .int (bI bn)), (0, .ref y)]) hx hb dX3_isJoined_71 hl (k := 1) rfl (nI_1 _) (by decide) rfl (fun ls hl => ?_)
                  refine lv_goto (tgt := 38) hx hb dX3_isJoined_74 (by decide) ?_
                  exact ih38 true (j + 1) (by first | exact ds_t2 c61 | exact ds_t1 hu c49 | exact ds_f hu c49 c61) (by omega) _ hS ls (by omega) (lv_sub hl [0, 1, 2, 3, 4, 5] rfl)
        exact loop38 _ false 0 ⟨fun g => (by cases g), fun ⟨i, g, _⟩ => absurd g (Nat.not_lt_zero _)⟩ (by omega) _ hS ls (Nat.lt_succ_self _) (lv_sub hl [0, 1, 5, 4, 3, 2] rfl)
      · have hroom : ¬ (L.length + (if h = 110 then n else 1 + n) ≤ 60) := by first | (rw [if_pos c16]; omega) | (rw [if_neg c16]; omega)
        refine lv_iconst (v := nI 0) hx hb dX3_isJoined_30 (by decide) ?_
        exact x_zret hx hb hr hlocks h0 hS (by omega) (by omega) dX3_isJoined_31 (by first | rfl | exact bI_nar _) (⟨rfl, jB_f (fun g => by first | exact hroom g.2.2.2 | (have := g.1; omega)), trivial⟩)

abbrev RMX3_join : Room := { frames := 1, cells := 0, slots := 0, locals := 12 }
set_option maxHeartbeats 4000000 in
set_option maxRecDepth 100000 in
theorem c_X3_join (l : Launch) (G : gG) (y : Nat) (L : List Nat) (th : Int32) (h : Nat) (hh16 : h < 65536) (hlen : h = 110 ∨ L.length < 60) (H0 : Heap) (hO : MO G y (nI L.length) th H0) (hTd : TA G (y + 1) L H0) : XM l yX3_join wsX3_join RMX3_join G [.ref y, .int (nI h)] H0 y (y + 2) 0 0 (qV (fun H1 => MO G y (nI (jn L h).length) th H1 ∧ TA G (y + 1) (jn L h) H1)) xN := by
  refine x_ofW (cc := cX3_join) (maxL := 2) (ret := none) (by decide) rfl (Nat.le_of_ble_eq_true rfl) ?_
  intro p e s m below meth c hx hb hr hml hown hts hlocks hout hin2 h0 hE ls hl
  replace hown : s.vm.findClass RX3 = some m.cls := hown
  have hK := hE.1
  have hS : va_S (gA y (y + 2) H0.size) H0 H0 [] := va_S.rf
  generalize hargs : ([.ref y, .int (nI h)] : List Value).toArray = args at hts ⊢
  have hw0 := hts (.fieldLink RX3 9 "ReleaseledgerModel" "draft" "[C") (by decide +kernel)
  have hw1 : ∀ w ∈ u_ws RX3 TX3 9, w ∈ wsX3_join := by decide +kernel
  have hw2 := hts (.fieldLink RX3 92 "ReleaseledgerModel" "draftSize" "I") (by decide +kernel)
  have hl : lv_has ls 2 [(0, .ref y), (1, .int (nI h))] := hl
  have hTd0 := hTd
  obtain ⟨fd, hD, hDf, hDn, hDc⟩ := hTd
  refine lv_iload_n hx hb dX3_join_0 rfl (lv_at hl 1 rfl) ?_
  refine lv_bipush (v := nI 110) hx hb dX3_join_1 (by decide) ?_
  refine x_icmp_eq (tgt := 26) hx hb (by omega) (by omega) dX3_join_3 (by decide) (fun c3 => ?_) (fun c3 => ?_)
  · exact x_vret hx hb hr hlocks h0 hS (by omega) (by omega) dX3_join_26 (⟨by rw [show jn L h = L from if_pos c3]; exact hO, by rw [show jn L h = L from if_pos c3]; exact hTd0⟩)
  · refine lv_aload_n hx hb dX3_join_6 rfl (lv_at hl 0 rfl) ?_
    refine x_get (ci := 3) hx hb hts hown hK rfl hw1 0 (by decide) hw0 hO rfl dX3_join_7 ?_
    refine lv_aload_n hx hb dX3_join_10 rfl (lv_at hl 0 rfl) ?_
    refine x_get (ci := 3) hx hb hts hown hK rfl hw1 1 (by decide) hw2 hO rfl dX3_join_11 ?_
    refine lv_iload_n hx hb dX3_join_14 rfl (lv_at hl 1 rfl) ?_
    refine x_cast hx hb hK hD (by omega) (by decide) (by omega) hS (by unfold gA; omega) dX3_join_15 (fun H1 locs hD hF hz hS => ?_)
    have hO := hO.fr hF (by omega)
    have hT2 := TA_push hD hDf (by omega) hh16 hDc
    refine lv_aload_n hx hb dX3_join_16 rfl (lv_at hl 0 rfl) ?_
    refine lv_dup hx hb dX3_join_17 rfl ?_
    refine x_get (ci := 3) hx hb hts hown hK rfl hw1 1 (by decide) hw2 hO rfl dX3_join_18 ?_
    refine lv_iconst (v := nI 1) hx hb dX3_join_21 (by decide) ?_
    refine lv_iadd hx hb dX3_join_22 ?_
    refine x_rw (z := nI (L.length + 1)) (nI_add _ _) ?_
    refine x_put (ci := 3) hx hb hts hown hK rfl hw1 tyX3_ok nmX3 1 (by decide) hw2 rfl (tyX3_ok 1 (by decide)) rfl rfl hO (Nat.le_of_ble_eq_true rfl) hS (by unfold gA; omega) dX3_join_23 (fun H2 locs hO hF hz hS => ?_)
    have hO : gO G y 3 [.ref (y + 1), .int (nI (L.length + 1)), .ref (y + 2), .ref (y + 11), .ref (y + 12), .ref (y + 13), .ref (y + 16), .ref (y + 25), .int th] H2 := hO
    have hD := hD.fr hF (by omega)
    exact x_vret hx hb hr hlocks h0 hS (by omega) (by omega) dX3_join_26 (⟨by rw [show jn L h = L ++ [h] from if_neg c3, List.length_append]; exact hO, by rw [show jn L h = L ++ [h] from if_neg c3]; exact hT2.fr hF (by omega)⟩)
