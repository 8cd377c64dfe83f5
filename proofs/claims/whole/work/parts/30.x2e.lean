abbrev RMX2_zero : Room := { frames := 8, cells := 4, slots := 24, locals := 158 }
set_option maxHeartbeats 4000000 in
set_option maxRecDepth 100000 in
theorem c_X2_zero (l : Launch) (G : gG) (b : Nat) (L : List Nat) (txt : Nat → List Nat) (x y : Int32) (H0 : Heap) (hXW : XW G b L txt H0) : XM l yX2_zero wsX2_zero RMX2_zero G [.ref b, .int x, .int y] H0 b (b + 115) 4 24 (qI (fun r H1 => (okN 8 x ∧ okN 8 y ∧ (txt (ix x)).length + 2 ≤ 60) ∧ r = bI (decide (ordr (txt (ix x) ++ [46] ++ dg 0) (txt (ix x)) = 0)) ∧ XW G b L (up txt (ix y) (txt (ix x) ++ [46] ++ dg 0)) H1)) (fun E H1 => ((E = xIO ∧ ¬ (okN 8 x ∧ okN 8 y)) ∨ (E = xIS ∧ (okN 8 x ∧ okN 8 y) ∧ ¬ ((txt (ix x)).length + 2 ≤ 60))) ∧ XW G b L txt H1) := by
  refine x_ofW (cc := cX2_zero) (maxL := 5) (ret := (some .boolean)) (by decide) rfl (Nat.le_of_ble_eq_true rfl) ?_
  intro p e s m below meth c hx hb hr hml hown hts hlocks hout hin2 h0 hE ls hl
  replace hown : s.vm.findClass RX2 = some m.cls := hown
  have hK := hE.1
  have hS : va_S (gA b (b + 115) H0.size) H0 H0 [] := va_S.rf
  generalize hargs : ([.ref b, .int x, .int y] : List Value).toArray = args at hts ⊢
  have hw0 : ∀ w ∈ u_ws RX1 TX1 4, w ∈ wsX2_zero := by decide +kernel
  have hw1 := hts (.fieldLink RX2 33 "Releaseledger" "spare" "LReleaseledger$Version;") (by decide +kernel)
  have hw2 : ∀ w ∈ u_ws RX2 TX2 6, w ∈ wsX2_zero := by decide +kernel
  have hl : lv_has ls 5 [(0, .ref b), (1, .int x), (2, .int y)] := hl
  obtain ⟨sl, sp, P0, hB, hVo⟩ := hXW
  have hrg := hB.rng
  have hO := hB.O
  have hT := hB.T
  obtain ⟨f3, hSl, hsl⟩ := hB.2.2.1
  have hTn := hT.le
  have hOs := hVo.1.1
  have hVt := hVo.2.1
  refine lv_aload_n hx hb dX2_zero_0 rfl (lv_at hl 0 rfl) ?_
  refine lv_iload_n hx hb dX2_zero_1 rfl (lv_at hl 1 rfl) ?_
  refine x_goR_ro (x_runV (As := [.int x]) (rest := []) ⟨hx, hb, hml, hown, hts⟩ hE h0 hS (c_X2_versionIn l G b L txt sl sp x H0 hB) (cwV 1 hts gX2_zero_X2_versionIn rfl rfl rfl (by decide +kernel) ⟨Nat.le_of_ble_eq_true rfl, Nat.le_of_ble_eq_true rfl⟩) (hB.recv hK) (by omega) rfl rfl hl.1 rfl (lv_room (Nat.le_of_ble_eq_true rfl)) dX2_zero_2 ⟨by first | exact Nat.le_of_ble_eq_true rfl | omega, by first | exact Nat.le_of_ble_eq_true rfl | omega⟩) hS (by omega) (fun E ce q9 H1 locs1 hXx hFx hSx hce hcv hcl => x_thru hout hlocks h0 hSx hce hcv hcl (⟨Or.inl ⟨hXx.1, fun h => hXx.2 h.1⟩, (XW.mk' hB hVo).fr hFx (by omega)⟩) (by omega) (by omega)) (fun locs hq hS => ?_)
  obtain ⟨i, hi, rfl⟩ := hq
  refine x_rwr (z := vk b (sl i)) (by rw [ix_N (by omega)]) ?_
  have hM_i := hB.V (i := i) (by omega)
  have hO_i := hM_i.1.1
  have hMt_i := hM_i.2.1
  have hMn_i := hMt_i.le
  have hdis_i := hB.dis (i := i) (by omega)
  have gM_i := hB.g (i := i) (by omega)
  have hri_i := hB.rngi (i := i) (by omega)
  refine lv_astore_n (lv' := [(3, .ref (vk b (sl i))), (0, .ref b), (1, .int (nI i)), (2, .int y)]) hx hb dX2_zero_5 rfl hl (by decide) rfl (fun ls hl => ?_)
  refine lv_iload_n hx hb dX2_zero_6 rfl (lv_at hl 3 rfl) ?_
  refine x_goV_ro (x_runS (As := [.int y]) (rest := []) ⟨hx, hb, hml, hown, hts⟩ hE h0 hS (c_X2_checkSlot l G y H0) (va_cwS 1 hts gX2_zero_X2_checkSlot rfl rfl rfl (by decide +kernel) ⟨Nat.le_of_ble_eq_true rfl, Nat.le_of_ble_eq_true rfl⟩) (by omega) rfl rfl hl.1 rfl (lv_room (Nat.le_of_ble_eq_true rfl)) dX2_zero_7 ⟨by first | exact Nat.le_of_ble_eq_true rfl | omega, by first | exact Nat.le_of_ble_eq_true rfl | omega⟩) hS (by omega) (fun E ce q9 H1 locs1 hXx hFx hSx hce hcv hcl => x_thru hout hlocks h0 hSx hce hcv hcl (⟨Or.inl ⟨hXx.1, fun h => hXx.2 h.2⟩, (XW.mk' hB hVo).fr hFx (by omega)⟩) (by omega) (by omega)) (fun locs hq hS => ?_)
  obtain ⟨j, hj, rfl⟩ := hq
  refine lv_aload_n hx hb dX2_zero_10 rfl (lv_at hl 0 rfl) ?_
  refine x_getN (ci := 1) (host := RX2) hx hb hts hown hK rfl hw0 0 (by decide) (x_nest hE (by decide +kernel)) hO_i rfl dX2_zero_11 ?_
  refine lv_iconst (v := nI 1) hx hb dX2_zero_14 (by decide) ?_
  refine lv_iconst (v := nI 0) hx hb dX2_zero_15 (by decide) ?_
  refine x_goI_ro (x_runS (As := [.int (nI 0)]) (rest := [.int (nI 1), .ref (vk b (sl i) + 1)]) ⟨hx, hb, hml, hown, hts⟩ hE h0 hS (c_X2_digitsOf l G 0 (by omega) H0) (va_cwS 1 hts gX2_zero_X2_digitsOf rfl rfl rfl (by decide +kernel) ⟨Nat.le_of_ble_eq_true rfl, Nat.le_of_ble_eq_true rfl⟩) (by omega) rfl rfl hl.1 rfl (lv_room (Nat.le_of_ble_eq_true rfl)) dX2_zero_16 ⟨by first | exact Nat.le_of_ble_eq_true rfl | omega, by first | exact Nat.le_of_ble_eq_true rfl | omega⟩) hS (by omega) (fun _ _ _ _ _ h => h.elim) (fun locs hq hS => ?_)
  have hd1 : dgs 0 = 1 := dgs_small (by decide)
  refine x_rw (z := (nI 1)) (by rw [hd1]) ?_
  refine lv_iadd hx hb dX2_zero_19 ?_
  refine x_rw (z := nI (1 + 1)) (nI_add _ _) ?_
  refine x_goV_ro (x_runS (As := [.ref (vk b (sl i) + 1), .int (nI (1 + 1))]) (rest := []) ⟨hx, hb, hml, hown, hts⟩ hE h0 hS (c_X2_checkRoom l G (vk b (sl i) + 1) (txt i) 2 (by omega) H0 hMt_i) (va_cwS 2 hts gX2_zero_X2_checkRoom rfl rfl rfl (by decide +kernel) ⟨Nat.le_of_ble_eq_true rfl, Nat.le_of_ble_eq_true rfl⟩) (by omega) rfl rfl hl.1 rfl (lv_room (Nat.le_of_ble_eq_true rfl)) dX2_zero_20 ⟨by first | exact Nat.le_of_ble_eq_true rfl | omega, by first | exact Nat.le_of_ble_eq_true rfl | omega⟩) hS (by omega) (fun E ce q9 H1 locs1 hXx hFx hSx hce hcv hcl => x_thru hout hlocks h0 hSx hce hcv hcl (⟨Or.inr ⟨hXx.1, ⟨⟨i, hi, rfl⟩, j, hj, rfl⟩, by rw [ix_N (by omega)]; exact hXx.2⟩, (XW.mk' hB hVo).fr hFx (by omega)⟩) (by omega) (by omega)) (fun locs hq hS => ?_)
  have hrm := hq
  refine lv_aload_n hx hb dX2_zero_23 rfl (lv_at hl 1 rfl) ?_
  refine lv_aload_n hx hb dX2_zero_24 rfl (lv_at hl 0 rfl) ?_
  refine lv_bipush (v := nI 46) hx hb dX2_zero_25 (by decide) ?_
  refine lv_iconst (v := nI 0) hx hb dX2_zero_27 (by decide) ?_
  refine x_goV (x_runV (As := [.ref (vk b (sl i)), .int (nI 46), .int (nI 0)]) (rest := []) ⟨hx, hb, hml, hown, hts⟩ hE h0 hS (c_X2_parseWithNumberBehind l G b L txt sl sp P0 i (by omega) 46 0 (by decide) (by omega) (by omega) H0 hB hVo) (cwV 3 hts gX2_zero_X2_parseWithNumberBehind rfl rfl rfl (by decide +kernel) ⟨Nat.le_of_ble_eq_true rfl, Nat.le_of_ble_eq_true rfl⟩) (hB.recv hK) (by omega) rfl rfl hl.1 rfl (lv_room (Nat.le_of_ble_eq_true rfl)) dX2_zero_28 ⟨by first | exact Nat.le_of_ble_eq_true rfl | omega, by first | exact Nat.le_of_ble_eq_true rfl | omega⟩) hS (by omega) (fun _ _ _ _ _ h => h.elim) (fun  H5 locs hq hF hS => ?_)
  have hO := hO.fr hF (by omega)
  have hO_i := hO_i.fr hF (by omega)
  have hB := hB.fr hF (by omega)
  have hP := hq
  have hOs := hP.1.1
  have hM_i := hM_i.fr hF (by omega)
  have hF1 := hF
  have gP : Gt (txt i ++ [46] ++ dg 0) := Gt_dot gM_i (by omega) (by omega)
  refine lv_aload_n hx hb dX2_zero_31 rfl (lv_at hl 1 rfl) ?_
  refine x_get (ci := 2) hx hb hts hown hK rfl hw2 5 (by decide) hw1 hO rfl dX2_zero_32 ?_
  refine lv_aload_n hx hb dX2_zero_35 rfl (lv_at hl 0 rfl) ?_
  refine x_goI_ro (x_runV (As := [.ref (vk b (sl i))]) (rest := []) ⟨hx, hb, hml, hown, hts⟩ hE h0 hS (c_X1_orderTo l G (vk b sp) (vk b (sl i)) (txt i ++ [46] ++ dg 0) (txt i) (tk (txt i ++ [46] ++ dg 0)) (tk (txt i)) gP.J gM_i.J H5 hP hM_i) (cwV 1 hts gX2_zero_X1_orderTo rfl rfl rfl (by decide +kernel) ⟨Nat.le_of_ble_eq_true rfl, Nat.le_of_ble_eq_true rfl⟩) (hP.recv hK) (by omega) rfl rfl hl.1 rfl (lv_room (Nat.le_of_ble_eq_true rfl)) dX2_zero_36 ⟨by first | exact Nat.le_of_ble_eq_true rfl | omega, by first | exact Nat.le_of_ble_eq_true rfl | omega⟩) hS (by omega) (fun _ _ _ _ _ h => h.elim) (fun locs hq hS => ?_)
  refine x_rw (z := ordr (txt i ++ [46] ++ dg 0) (txt i)) rfl ?_
  refine lv_if_ne (tgt := 46) hx hb dX2_zero_39 (by decide) (fun c39 => ?_) (fun c39 => ?_)
  · have hb0 := decide_eq_false c39
    refine lv_iconst (v := nI 0) hx hb dX2_zero_46 (by decide) ?_
    refine lv_istore (lv' := [(4, .int (nI 0)), (3, .ref (vk b (sl i))), (0, .ref b), (1, .int (nI i)), (2, .int (nI j))]) hx hb dX2_zero_47 hl (by decide) rfl (fun ls hl => ?_)
    refine lv_aload_n hx hb dX2_zero_49 rfl (lv_at hl 2 rfl) ?_
    refine lv_iload_n hx hb dX2_zero_50 rfl (lv_at hl 4 rfl) ?_
    refine x_goI (x_runV (As := [.int (nI j)]) (rest := []) ⟨hx, hb, hml, hown, hts⟩ hE h0 hS (c_X2_exchangeSpare l G b L txt sl sp (txt i ++ [46] ++ dg 0) j (by omega) gP H5 hB hP) (cwV 1 hts gX2_zero_X2_exchangeSpare rfl rfl rfl (by decide +kernel) ⟨Nat.le_of_ble_eq_true rfl, Nat.le_of_ble_eq_true rfl⟩) (hB.recv hK) (by omega) rfl rfl hl.1 rfl (lv_room (Nat.le_of_ble_eq_true rfl)) dX2_zero_51 ⟨by first | exact Nat.le_of_ble_eq_true rfl | omega, by first | exact Nat.le_of_ble_eq_true rfl | omega⟩) hS (by omega) (fun _ _ _ _ _ h => h.elim) (fun r8 H7 locs hq hF hS => ?_)
    obtain ⟨hr1, hX1⟩ := hq
    refine lv_pop hx hb dX2_zero_54 rfl ?_
    refine lv_iload hx hb dX2_zero_55 (lv_at hl 0 rfl) ?_
    exact x_zret hx hb hr hlocks h0 hS (by omega) (by omega) dX2_zero_57 (by first | rfl | exact bI_nar _) (⟨⟨⟨i, hi, rfl⟩, ⟨j, hj, rfl⟩, by rw [ix_N (by omega)]; exact hrm⟩, by rw [ix_N (by omega), hb0]; rfl, by rw [ix_N (by omega), ix_N (by omega)]; exact hX1⟩)
  · have hb0 := decide_eq_true c39
    refine lv_iconst (v := nI 1) hx hb dX2_zero_42 (by decide) ?_
    refine lv_goto (tgt := 47) hx hb dX2_zero_43 (by decide) ?_
    refine lv_istore (lv' := [(4, .int (nI 1)), (3, .ref (vk b (sl i))), (0, .ref b), (1, .int (nI i)), (2, .int (nI j))]) hx hb dX2_zero_47 hl (by decide) rfl (fun ls hl => ?_)
    refine lv_aload_n hx hb dX2_zero_49 rfl (lv_at hl 2 rfl) ?_
    refine lv_iload_n hx hb dX2_zero_50 rfl (lv_at hl 4 rfl) ?_
    refine x_goI (x_runV (As := [.int (nI j)]) (rest := []) ⟨hx, hb, hml, hown, hts⟩ hE h0 hS (c_X2_exchangeSpare l G b L txt sl sp (txt i ++ [46] ++ dg 0) j (by omega) gP H5 hB hP) (cwV 1 hts gX2_zero_X2_exchangeSpare rfl rfl rfl (by decide +kernel) ⟨Nat.le_of_ble_eq_true rfl, Nat.le_of_ble_eq_true rfl⟩) (hB.recv hK) (by omega) rfl rfl hl.1 rfl (lv_room (Nat.le_of_ble_eq_true rfl)) dX2_zero_51 ⟨by first | exact Nat.le_of_ble_eq_true rfl | omega, by first | exact Nat.le_of_ble_eq_true rfl | omega⟩) hS (by omega) (fun _ _ _ _ _ h => h.elim) (fun r10 H9 locs hq hF hS => ?_)
    obtain ⟨hr1, hX1⟩ := hq
    refine lv_pop hx hb dX2_zero_54 rfl ?_
    refine lv_iload hx hb dX2_zero_55 (lv_at hl 0 rfl) ?_
    exact x_zret hx hb hr hlocks h0 hS (by omega) (by omega) dX2_zero_57 (by first | rfl | exact bI_nar _) (⟨⟨⟨i, hi, rfl⟩, ⟨j, hj, rfl⟩, by rw [ix_N (by omega)]; exact hrm⟩, by rw [ix_N (by omega), hb0]; rfl, by rw [ix_N (by omega), ix_N (by omega)]; exact hX1⟩)

abbrev RMX2_longer : Room := { frames := 8, cells := 4, slots := 24, locals := 158 }
set_option maxHeartbeats 4000000 in
set_option maxRecDepth 100000 in
theorem c_X2_longer (l : Launch) (G : gG) (b : Nat) (L : List Nat) (txt : Nat → List Nat) (x z y : Int32) (H0 : Heap) (hXW : XW G b L txt H0) : XM l yX2_longer wsX2_longer RMX2_longer G [.ref b, .int x, .int z, .int y] H0 b (b + 115) 4 24 (qI (fun r H1 => ((okN 8 x ∧ okN 8 y) ∧ okP 999 z ∧ ((txt (ix x)).length + (1 + dgs (ix z)) ≤ 60)) ∧ r = bI (decide (0 < ordr (txt (ix x) ++ [46] ++ dg (ix z)) (txt (ix x)))) ∧ XW G b L (up txt (ix y) (txt (ix x) ++ [46] ++ dg (ix z))) H1)) (fun E H1 => ((E = xIO ∧ ¬ (okN 8 x ∧ okN 8 y)) ∨ (E = xIA ∧ (okN 8 x ∧ okN 8 y) ∧ ¬ okP 999 z) ∨ (E = xIS ∧ (okN 8 x ∧ okN 8 y) ∧ okP 999 z ∧ ¬ ((txt (ix x)).length + (1 + dgs (ix z)) ≤ 60))) ∧ XW G b L txt H1) := by
  refine x_ofW (cc := cX2_longer) (maxL := 6) (ret := (some .boolean)) (by decide) rfl (Nat.le_of_ble_eq_true rfl) ?_
  intro p e s m below meth c hx hb hr hml hown hts hlocks hout hin2 h0 hE ls hl
  replace hown : s.vm.findClass RX2 = some m.cls := hown
  have hK := hE.1
  have hS : va_S (gA b (b + 115) H0.size) H0 H0 [] := va_S.rf
  generalize hargs : ([.ref b, .int x, .int z, .int y] : List Value).toArray = args at hts ⊢
  have hw0 : ∀ w ∈ u_ws RX1 TX1 4, w ∈ wsX2_longer := by decide +kernel
  have hw1 := hts (.fieldLink RX2 33 "Releaseledger" "spare" "LReleaseledger$Version;") (by decide +kernel)
  have hw2 : ∀ w ∈ u_ws RX2 TX2 6, w ∈ wsX2_longer := by decide +kernel
  have hl : lv_has ls 6 [(0, .ref b), (1, .int x), (2, .int z), (3, .int y)] := hl
  obtain ⟨sl, sp, P0, hB, hVo⟩ := hXW
  have hrg := hB.rng
  have hO := hB.O
  have hT := hB.T
  obtain ⟨f3, hSl, hsl⟩ := hB.2.2.1
  have hTn := hT.le
  have hOs := hVo.1.1
  have hVt := hVo.2.1
  refine lv_aload_n hx hb dX2_longer_0 rfl (lv_at hl 0 rfl) ?_
  refine lv_iload_n hx hb dX2_longer_1 rfl (lv_at hl 1 rfl) ?_
  refine x_goR_ro (x_runV (As := [.int x]) (rest := []) ⟨hx, hb, hml, hown, hts⟩ hE h0 hS (c_X2_versionIn l G b L txt sl sp x H0 hB) (cwV 1 hts gX2_longer_X2_versionIn rfl rfl rfl (by decide +kernel) ⟨Nat.le_of_ble_eq_true rfl, Nat.le_of_ble_eq_true rfl⟩) (hB.recv hK) (by omega) rfl rfl hl.1 rfl (lv_room (Nat.le_of_ble_eq_true rfl)) dX2_longer_2 ⟨by first | exact Nat.le_of_ble_eq_true rfl | omega, by first | exact Nat.le_of_ble_eq_true rfl | omega⟩) hS (by omega) (fun E ce q9 H1 locs1 hXx hFx hSx hce hcv hcl => x_thru hout hlocks h0 hSx hce hcv hcl (⟨Or.inl ⟨hXx.1, fun h => hXx.2 h.1⟩, (XW.mk' hB hVo).fr hFx (by omega)⟩) (by omega) (by omega)) (fun locs hq hS => ?_)
  obtain ⟨i, hi, rfl⟩ := hq
  refine x_rwr (z := vk b (sl i)) (by rw [ix_N (by omega)]) ?_
  have hM_i := hB.V (i := i) (by omega)
  have hO_i := hM_i.1.1
  have hMt_i := hM_i.2.1
  have hMn_i := hMt_i.le
  have hdis_i := hB.dis (i := i) (by omega)
  have gM_i := hB.g (i := i) (by omega)
  have hri_i := hB.rngi (i := i) (by omega)
  refine lv_astore (lv' := [(4, .ref (vk b (sl i))), (0, .ref b), (1, .int (nI i)), (2, .int z), (3, .int y)]) hx hb dX2_longer_5 hl (by decide) rfl (fun ls hl => ?_)
  refine lv_iload_n hx hb dX2_longer_7 rfl (lv_at hl 4 rfl) ?_
  refine x_goV_ro (x_runS (As := [.int y]) (rest := []) ⟨hx, hb, hml, hown, hts⟩ hE h0 hS (c_X2_checkSlot l G y H0) (va_cwS 1 hts gX2_longer_X2_checkSlot rfl rfl rfl (by decide +kernel) ⟨Nat.le_of_ble_eq_true rfl, Nat.le_of_ble_eq_true rfl⟩) (by omega) rfl rfl hl.1 rfl (lv_room (Nat.le_of_ble_eq_true rfl)) dX2_longer_8 ⟨by first | exact Nat.le_of_ble_eq_true rfl | omega, by first | exact Nat.le_of_ble_eq_true rfl | omega⟩) hS (by omega) (fun E ce q9 H1 locs1 hXx hFx hSx hce hcv hcl => x_thru hout hlocks h0 hSx hce hcv hcl (⟨Or.inl ⟨hXx.1, fun h => hXx.2 h.2⟩, (XW.mk' hB hVo).fr hFx (by omega)⟩) (by omega) (by omega)) (fun locs hq hS => ?_)
  obtain ⟨j, hj, rfl⟩ := hq
  refine lv_iload_n hx hb dX2_longer_11 rfl (lv_at hl 3 rfl) ?_
  refine lv_iconst (v := nI 1) hx hb dX2_longer_12 (by decide) ?_
  refine lv_sipush (v := nI 999) hx hb dX2_longer_13 (by decide) ?_
  refine x_goV_ro (x_runS (As := [.int z, .int (nI 1), .int (nI 999)]) (rest := []) ⟨hx, hb, hml, hown, hts⟩ hE h0 hS (c_X2_checkNumber l G z (nI 1) (nI 999) H0) (va_cwS 3 hts gX2_longer_X2_checkNumber rfl rfl rfl (by decide +kernel) ⟨Nat.le_of_ble_eq_true rfl, Nat.le_of_ble_eq_true rfl⟩) (by omega) rfl rfl hl.1 rfl (lv_room (Nat.le_of_ble_eq_true rfl)) dX2_longer_16 ⟨by first | exact Nat.le_of_ble_eq_true rfl | omega, by first | exact Nat.le_of_ble_eq_true rfl | omega⟩) hS (by omega) (fun E ce q9 H1 locs1 hXx hFx hSx hce hcv hcl => x_thru hout hlocks h0 hSx hce hcv hcl (⟨Or.inr (Or.inl ⟨hXx.1, ⟨⟨i, hi, rfl⟩, j, hj, rfl⟩, fun h => hXx.2 ((okP_iff (by decide)).mp h)⟩), (XW.mk' hB hVo).fr hFx (by omega)⟩) (by omega) (by omega)) (fun locs hq hS => ?_)
  obtain ⟨k, hk, rfl⟩ := okNum1b (n := 999) hq
  refine lv_aload hx hb dX2_longer_19 (lv_at hl 0 rfl) ?_
  refine x_getN (ci := 1) (host := RX2) hx hb hts hown hK rfl hw0 0 (by decide) (x_nest hE (by decide +kernel)) hO_i rfl dX2_longer_21 ?_
  refine lv_iconst (v := nI 1) hx hb dX2_longer_24 (by decide) ?_
  refine lv_iload_n hx hb dX2_longer_25 rfl (lv_at hl 3 rfl) ?_
  refine x_goI_ro (x_runS (As := [.int (nI k)]) (rest := [.int (nI 1), .ref (vk b (sl i) + 1)]) ⟨hx, hb, hml, hown, hts⟩ hE h0 hS (c_X2_digitsOf l G k (by omega) H0) (va_cwS 1 hts gX2_longer_X2_digitsOf rfl rfl rfl (by decide +kernel) ⟨Nat.le_of_ble_eq_true rfl, Nat.le_of_ble_eq_true rfl⟩) (by omega) rfl rfl hl.1 rfl (lv_room (Nat.le_of_ble_eq_true rfl)) dX2_longer_26 ⟨by first | exact Nat.le_of_ble_eq_true rfl | omega, by first | exact Nat.le_of_ble_eq_true rfl | omega⟩) hS (by omega) (fun _ _ _ _ _ h => h.elim) (fun locs hq hS => ?_)
  have hd9 := dgs_lo (n := k) (by omega)
  have hd0 := dgs_pos k
  refine lv_iadd hx hb dX2_longer_29 ?_
  refine x_rw (z := nI (1 + (dgs k))) (nI_add _ _) ?_
  refine x_goV_ro (x_runS (As := [.ref (vk b (sl i) + 1), .int (nI (1 + (dgs k)))]) (rest := []) ⟨hx, hb, hml, hown, hts⟩ hE h0 hS (c_X2_checkRoom l G (vk b (sl i) + 1) (txt i) (1 + dgs k) (by omega) H0 hMt_i) (va_cwS 2 hts gX2_longer_X2_checkRoom rfl rfl rfl (by decide +kernel) ⟨Nat.le_of_ble_eq_true rfl, Nat.le_of_ble_eq_true rfl⟩) (by omega) rfl rfl hl.1 rfl (lv_room (Nat.le_of_ble_eq_true rfl)) dX2_longer_30 ⟨by first | exact Nat.le_of_ble_eq_true rfl | omega, by first | exact Nat.le_of_ble_eq_true rfl | omega⟩) hS (by omega) (fun E ce q9 H1 locs1 hXx hFx hSx hce hcv hcl => x_thru hout hlocks h0 hSx hce hcv hcl (⟨Or.inr (Or.inr ⟨hXx.1, ⟨⟨i, hi, rfl⟩, j, hj, rfl⟩, okP_of hk, by rw [ix_N (by omega), ix_N (by omega)]; exact hXx.2⟩), (XW.mk' hB hVo).fr hFx (by omega)⟩) (by omega) (by omega)) (fun locs hq hS => ?_)
  have hrm := hq
  refine lv_aload_n hx hb dX2_longer_33 rfl (lv_at hl 1 rfl) ?_
  refine lv_aload hx hb dX2_longer_34 (lv_at hl 0 rfl) ?_
  refine lv_bipush (v := nI 46) hx hb dX2_longer_36 (by decide) ?_
  refine lv_iload_n hx hb dX2_longer_38 rfl (lv_at hl 3 rfl) ?_
  refine x_goV (x_runV (As := [.ref (vk b (sl i)), .int (nI 46), .int (nI k)]) (rest := []) ⟨hx, hb, hml, hown, hts⟩ hE h0 hS (c_X2_parseWithNumberBehind l G b L txt sl sp P0 i (by omega) 46 k (by decide) (by omega) (by omega) H0 hB hVo) (cwV 3 hts gX2_longer_X2_parseWithNumberBehind rfl rfl rfl (by decide +kernel) ⟨Nat.le_of_ble_eq_true rfl, Nat.le_of_ble_eq_true rfl⟩) (hB.recv hK) (by omega) rfl rfl hl.1 rfl (lv_room (Nat.le_of_ble_eq_true rfl)) dX2_longer_39 ⟨by first | exact Nat.le_of_ble_eq_true rfl | omega, by first | exact Nat.le_of_ble_eq_true rfl | omega⟩) hS (by omega) (fun _ _ _ _ _ h => h.elim) (fun  H6 locs hq hF hS => ?_)
  have hO := hO.fr hF (by omega)
  have hO_i := hO_i.fr hF (by omega)
  have hB := hB.fr hF (by omega)
  have hP := hq
  have hOs := hP.1.1
  have hM_i := hM_i.fr hF (by omega)
  have gP : Gt (txt i ++ [46] ++ dg k) := Gt_dot gM_i (by omega) (by omega)
  refine lv_aload_n hx hb dX2_longer_42 rfl (lv_at hl 1 rfl) ?_
  refine x_get (ci := 2) hx hb hts hown hK rfl hw2 5 (by decide) hw1 hO rfl dX2_longer_43 ?_
  refine lv_aload hx hb dX2_longer_46 (lv_at hl 0 rfl) ?_
  refine x_goI_ro (x_runV (As := [.ref (vk b (sl i))]) (rest := []) ⟨hx, hb, hml, hown, hts⟩ hE h0 hS (c_X1_orderTo l G (vk b sp) (vk b (sl i)) (txt i ++ [46] ++ dg k) (txt i) (tk (txt i ++ [46] ++ dg k)) (tk (txt i)) gP.J gM_i.J H6 hP hM_i) (cwV 1 hts gX2_longer_X1_orderTo rfl rfl rfl (by decide +kernel) ⟨Nat.le_of_ble_eq_true rfl, Nat.le_of_ble_eq_true rfl⟩) (hP.recv hK) (by omega) rfl rfl hl.1 rfl (lv_room (Nat.le_of_ble_eq_true rfl)) dX2_longer_48 ⟨by first | exact Nat.le_of_ble_eq_true rfl | omega, by first | exact Nat.le_of_ble_eq_true rfl | omega⟩) hS (by omega) (fun _ _ _ _ _ h => h.elim) (fun locs hq hS => ?_)
  refine x_rw (z := ordr (txt i ++ [46] ++ dg k) (txt i)) rfl ?_
  refine lv_if_le (tgt := 58) hx hb dX2_longer_51 (by decide) (fun c51 => ?_) (fun c51 => ?_)
  · have hb0 := decide_eq_false (Int32.not_lt.mpr c51)
    refine lv_iconst (v := nI 0) hx hb dX2_longer_58 (by decide) ?_
    refine lv_istore (lv' := [(5, .int (nI 0)), (4, .ref (vk b (sl i))), (0, .ref b), (1, .int (nI i)), (2, .int (nI k)), (3, .int (nI j))]) hx hb dX2_longer_59 hl (by decide) rfl (fun ls hl => ?_)
    refine lv_aload_n hx hb dX2_longer_61 rfl (lv_at hl 2 rfl) ?_
    refine lv_iload_n hx hb dX2_longer_62 rfl (lv_at hl 5 rfl) ?_
    refine x_goI (x_runV (As := [.int (nI j)]) (rest := []) ⟨hx, hb, hml, hown, hts⟩ hE h0 hS (c_X2_exchangeSpare l G b L txt sl sp (txt i ++ [46] ++ dg k) j (by omega) gP H6 hB hP) (cwV 1 hts gX2_longer_X2_exchangeSpare rfl rfl rfl (by decide +kernel) ⟨Nat.le_of_ble_eq_true rfl, Nat.le_of_ble_eq_true rfl⟩) (hB.recv hK) (by omega) rfl rfl hl.1 rfl (lv_room (Nat.le_of_ble_eq_true rfl)) dX2_longer_63 ⟨by first | exact Nat.le_of_ble_eq_true rfl | omega, by first | exact Nat.le_of_ble_eq_true rfl | omega⟩) hS (by omega) (fun _ _ _ _ _ h => h.elim) (fun r9 H8 locs hq hF hS => ?_)
    obtain ⟨hr1, hX1⟩ := hq
    refine lv_pop hx hb dX2_longer_66 rfl ?_
    refine lv_iload hx hb dX2_longer_67 (lv_at hl 0 rfl) ?_
    exact x_zret hx hb hr hlocks h0 hS (by omega) (by omega) dX2_longer_69 (by first | rfl | exact bI_nar _) (⟨⟨⟨⟨i, hi, rfl⟩, j, hj, rfl⟩, okP_of hk, by rw [ix_N (by omega), ix_N (by omega)]; exact hrm⟩, by rw [ix_N (by omega), ix_N (by omega), hb0]; rfl, by rw [ix_N (by omega), ix_N (by omega), ix_N (by omega)]; exact hX1⟩)
  · have hb0 := decide_eq_true (Int32.not_le.mp c51)
    refine lv_iconst (v := nI 1) hx hb dX2_longer_54 (by decide) ?_
    refine lv_goto (tgt := 59) hx hb dX2_longer_55 (by decide) ?_
    refine lv_istore (lv' := [(5, .int (nI 1)), (4, .ref (vk b (sl i))), (0, .ref b), (1, .int (nI i)), (2, .int (nI k)), (3, .int (nI j))]) hx hb dX2_longer_59 hl (by decide) rfl (fun ls hl => ?_)
    refine lv_aload_n hx hb dX2_longer_61 rfl (lv_at hl 2 rfl) ?_
    refine lv_iload_n hx hb dX2_longer_62 rfl (lv_at hl 5 rfl) ?_
    refine x_goI (x_runV (As := [.int (nI j)]) (rest := []) ⟨hx, hb, hml, hown, hts⟩ hE h0 hS (c_X2_exchangeSpare l G b L txt sl sp (txt i ++ [46] ++ dg k) j (by omega) gP H6 hB hP) (cwV 1 hts gX2_longer_X2_exchangeSpare rfl rfl rfl (by decide +kernel) ⟨Nat.le_of_ble_eq_true rfl, Nat.le_of_ble_eq_true rfl⟩) (hB.recv hK) (by omega) rfl rfl hl.1 rfl (lv_room (Nat.le_of_ble_eq_true rfl)) dX2_longer_63 ⟨by first | exact Nat.le_of_ble_eq_true rfl | omega, by first | exact Nat.le_of_ble_eq_true rfl | omega⟩) hS (by omega) (fun _ _ _ _ _ h => h.elim) (fun r11 H10 locs hq hF hS => ?_)
    obtain ⟨hr1, hX1⟩ := hq
    refine lv_pop hx hb dX2_longer_66 rfl ?_
    refine lv_iload hx hb dX2_longer_67 (lv_at hl 0 rfl) ?_
    exact x_zret hx hb hr hlocks h0 hS (by omega) (by omega) dX2_longer_69 (by first | rfl | exact bI_nar _) (⟨⟨⟨⟨i, hi, rfl⟩, j, hj, rfl⟩, okP_of hk, by rw [ix_N (by omega), ix_N (by omega)]; exact hrm⟩, by rw [ix_N (by omega), ix_N (by omega), hb0]; rfl, by rw [ix_N (by omega), ix_N (by omega), ix_N (by omega)]; exact hX1⟩)

abbrev RMX2_early : Room := { frames := 8, cells := 4, slots := 24, locals := 158 }
set_option maxHeartbeats 4000000 in
set_option maxRecDepth 100000 in
theorem c_X2_early (l : Launch) (G : gG) (b : Nat) (L : List Nat) (txt : Nat → List Nat) (x : Int32) (z : Nat) (hz : z < 65536) (y : Int32) (H0 : Heap) (hXW : XW G b L txt H0) : XM l yX2_early wsX2_early RMX2_early G [.ref b, .int x, .int (nI z), .int y] H0 b (b + 115) 4 24 (qI (fun r H1 => ((okN 8 x ∧ okN 8 y) ∧ (97 ≤ z ∧ z ≤ 122) ∧ ((tk (txt (ix x)) 1).length = 0 ∧ (txt (ix x)).length + 2 ≤ 60)) ∧ r = bI (decide (ordr (txt (ix x) ++ [45] ++ [z]) (txt (ix x)) < 0)) ∧ XW G b L (up txt (ix y) (txt (ix x) ++ [45] ++ [z])) H1)) (fun E H1 => ((E = xIO ∧ ¬ (okN 8 x ∧ okN 8 y)) ∨ (E = xIA ∧ (okN 8 x ∧ okN 8 y) ∧ ¬ (97 ≤ z ∧ z ≤ 122)) ∨ (E = xIS ∧ (okN 8 x ∧ okN 8 y) ∧ (97 ≤ z ∧ z ≤ 122) ∧ ¬ ((tk (txt (ix x)) 1).length = 0 ∧ (txt (ix x)).length + 2 ≤ 60))) ∧ XW G b L txt H1) := by
  refine x_ofW (cc := cX2_early) (maxL := 6) (ret := (some .boolean)) (by decide) rfl (Nat.le_of_ble_eq_true rfl) ?_
  intro p e s m below meth c hx hb hr hml hown hts hlocks hout hin2 h0 hE ls hl
  replace hown : s.vm.findClass RX2 = some m.cls := hown
  have hK := hE.1
  have hS : va_S (gA b (b + 115) H0.size) H0 H0 [] := va_S.rf
  generalize hargs : ([.ref b, .int x, .int (nI z), .int y] : List Value).toArray = args at hts ⊢
  have hw0 := hts (.classLink RX2 73 xIA) (by decide +kernel)
  have hw1 := hts (.initialized xIA) (by decide +kernel)
  have hw2 : ∀ w ∈ u_ws RX1 TX1 4, w ∈ wsX2_early := by decide +kernel
  have hw3 := hts (.fieldLink RX2 33 "Releaseledger" "spare" "LReleaseledger$Version;") (by decide +kernel)
  have hw4 : ∀ w ∈ u_ws RX2 TX2 6, w ∈ wsX2_early := by decide +kernel
  have hw5 := hts (.classLink RX2 160 xIS) (by decide +kernel)
  have hw6 := hts (.initialized xIS) (by decide +kernel)
  have hl : lv_has ls 6 [(0, .ref b), (1, .int x), (2, .int (nI z)), (3, .int y)] := hl
  obtain ⟨sl, sp, P0, hB, hVo⟩ := hXW
  have hrg := hB.rng
  have hO := hB.O
  have hT := hB.T
  obtain ⟨f3, hSl, hsl⟩ := hB.2.2.1
  have hTn := hT.le
  have hOs := hVo.1.1
  have hVt := hVo.2.1
  refine lv_aload_n hx hb dX2_early_0 rfl (lv_at hl 0 rfl) ?_
  refine lv_iload_n hx hb dX2_early_1 rfl (lv_at hl 1 rfl) ?_
  refine x_goR_ro (x_runV (As := [.int x]) (rest := []) ⟨hx, hb, hml, hown, hts⟩ hE h0 hS (c_X2_versionIn l G b L txt sl sp x H0 hB) (cwV 1 hts gX2_early_X2_versionIn rfl rfl rfl (by decide +kernel) ⟨Nat.le_of_ble_eq_true rfl, Nat.le_of_ble_eq_true rfl⟩) (hB.recv hK) (by omega) rfl rfl hl.1 rfl (lv_room (Nat.le_of_ble_eq_true rfl)) dX2_early_2 ⟨by first | exact Nat.le_of_ble_eq_true rfl | omega, by first | exact Nat.le_of_ble_eq_true rfl | omega⟩) hS (by omega) (fun E ce q9 H1 locs1 hXx hFx hSx hce hcv hcl => x_thru hout hlocks h0 hSx hce hcv hcl (⟨Or.inl ⟨hXx.1, fun h => hXx.2 h.1⟩, (XW.mk' hB hVo).fr hFx (by omega)⟩) (by omega) (by omega)) (fun locs hq hS => ?_)
  obtain ⟨i, hi, rfl⟩ := hq
  refine x_rwr (z := vk b (sl i)) (by rw [ix_N (by omega)]) ?_
  have hM_i := hB.V (i := i) (by omega)
  have hO_i := hM_i.1.1
  have hMt_i := hM_i.2.1
  have hMn_i := hMt_i.le
  have hdis_i := hB.dis (i := i) (by omega)
  have gM_i := hB.g (i := i) (by omega)
  have hri_i := hB.rngi (i := i) (by omega)
  refine lv_astore (lv' := [(4, .ref (vk b (sl i))), (0, .ref b), (1, .int (nI i)), (2, .int (nI z)), (3, .int y)]) hx hb dX2_early_5 hl (by decide) rfl (fun ls hl => ?_)
  refine lv_iload_n hx hb dX2_early_7 rfl (lv_at hl 4 rfl) ?_
  refine x_goV_ro (x_runS (As := [.int y]) (rest := []) ⟨hx, hb, hml, hown, hts⟩ hE h0 hS (c_X2_checkSlot l G y H0) (va_cwS 1 hts gX2_early_X2_checkSlot rfl rfl rfl (by decide +kernel) ⟨Nat.le_of_ble_eq_true rfl, Nat.le_of_ble_eq_true rfl⟩) (by omega) rfl rfl hl.1 rfl (lv_room (Nat.le_of_ble_eq_true rfl)) dX2_early_8 ⟨by first | exact Nat.le_of_ble_eq_true rfl | omega, by first | exact Nat.le_of_ble_eq_true rfl | omega⟩) hS (by omega) (fun E ce q9 H1 locs1 hXx hFx hSx hce hcv hcl => x_thru hout hlocks h0 hSx hce hcv hcl (⟨Or.inl ⟨hXx.1, fun h => hXx.2 h.2⟩, (XW.mk' hB hVo).fr hFx (by omega)⟩) (by omega) (by omega)) (fun locs hq hS => ?_)
  obtain ⟨j, hj, rfl⟩ := hq
  refine lv_iload_n hx hb dX2_early_11 rfl (lv_at hl 3 rfl) ?_
  refine lv_bipush (v := nI 97) hx hb dX2_early_12 (by decide) ?_
  refine x_icmp_lt (tgt := 23) hx hb (by omega) (by omega) dX2_early_14 (by decide) (fun c14 => ?_) (fun c14 => ?_)
  · exact x_throw (cls := xIA) (text := "the letters are a to z") hx hb hE h0 hS hown hlocks hout (by rw [hml]; exact hl.1) (by decide) hw0 hw1 ot_IA (by decide +kernel) nb_IA (fun w h => by first | exact hts w (List.mem_cons_of_mem _ (List.mem_append_right _ h)) | exact hts w (List.mem_cons_of_mem _ (List.mem_append_left _ (List.mem_append_right _ h))) | exact hts w (List.mem_cons_of_mem _ (List.mem_append_left _ (List.mem_append_left _ (List.mem_append_right _ h))))) dX2_early_23 dX2_early_26 dX2_early_27 dX2_early_29 dX2_early_32 (Nat.le_of_ble_eq_true rfl) (Nat.le_of_ble_eq_true rfl) (Nat.le_of_ble_eq_true rfl) (Nat.le_of_ble_eq_true rfl) (by omega) (by omega) (fun H1 hF => ⟨Or.inr (Or.inl ⟨rfl, ⟨⟨i, hi, rfl⟩, j, hj, rfl⟩, by omega⟩), (XW.mk' hB hVo).fr hF (by omega)⟩)
  · refine lv_iload_n hx hb dX2_early_17 rfl (lv_at hl 3 rfl) ?_
    refine lv_bipush (v := nI 122) hx hb dX2_early_18 (by decide) ?_
    refine x_icmp_le (tgt := 33) hx hb (by omega) (by omega) dX2_early_20 (by decide) (fun c20 => ?_) (fun c20 => ?_)
    · refine lv_aload hx hb dX2_early_33 (lv_at hl 0 rfl) ?_
      refine lv_iconst (v := nI 1) hx hb dX2_early_35 (by decide) ?_
      refine x_goI_ro (x_runV (As := [.int (nI 1)]) (rest := []) ⟨hx, hb, hml, hown, hts⟩ hE h0 hS (c_X1_hasRow l G (vk b (sl i)) (txt i) (tk (txt i)) 1 (by decide) H0 hM_i) (cwV 1 hts gX2_early_X1_hasRow rfl rfl rfl (by decide +kernel) ⟨Nat.le_of_ble_eq_true rfl, Nat.le_of_ble_eq_true rfl⟩) (hM_i.recv hK) (by omega) rfl rfl hl.1 rfl (lv_room (Nat.le_of_ble_eq_true rfl)) dX2_early_36 ⟨by first | exact Nat.le_of_ble_eq_true rfl | omega, by first | exact Nat.le_of_ble_eq_true rfl | omega⟩) hS (by omega) (fun _ _ _ _ _ h => h.elim) (fun locs hq hS => ?_)
      refine x_if_eqB (tgt := 52) hx hb dX2_early_39 (by decide) (fun c39 => ?_) (fun c39 => ?_)
      · have h10 := of_decide_eq_false c39
        refine lv_aload hx hb dX2_early_52 (lv_at hl 0 rfl) ?_
        refine x_getN (ci := 1) (host := RX2) hx hb hts hown hK rfl hw2 0 (by decide) (x_nest hE (by decide +kernel)) hO_i rfl dX2_early_54 ?_
        refine lv_iconst (v := nI 2) hx hb dX2_early_57 (by decide) ?_
        refine x_goV_ro (x_runS (As := [.ref (vk b (sl i) + 1), .int (nI 2)]) (rest := []) ⟨hx, hb, hml, hown, hts⟩ hE h0 hS (c_X2_checkRoom l G (vk b (sl i) + 1) (txt i) 2 (by omega) H0 hMt_i) (va_cwS 2 hts gX2_early_X2_checkRoom rfl rfl rfl (by decide +kernel) ⟨Nat.le_of_ble_eq_true rfl, Nat.le_of_ble_eq_true rfl⟩) (by omega) rfl rfl hl.1 rfl (lv_room (Nat.le_of_ble_eq_true rfl)) dX2_early_58 ⟨by first | exact Nat.le_of_ble_eq_true rfl | omega, by first | exact Nat.le_of_ble_eq_true rfl | omega⟩) hS (by omega) (fun E ce q9 H1 locs1 hXx hFx hSx hce hcv hcl => x_thru hout hlocks h0 hSx hce hcv hcl (⟨Or.inr (Or.inr ⟨hXx.1, ⟨⟨i, hi, rfl⟩, j, hj, rfl⟩, by omega, by rw [ix_N (by omega)]; exact fun h => hXx.2 h.2⟩), (XW.mk' hB hVo).fr hFx (by omega)⟩) (by omega) (by omega)) (fun locs hq hS => ?_)
        have hrm := hq
        refine lv_aload_n hx hb dX2_early_61 rfl (lv_at hl 1 rfl) ?_
        refine lv_aload hx hb dX2_early_62 (lv_at hl 0 rfl) ?_
        refine lv_iload_n hx hb dX2_early_64 rfl (lv_at hl 3 rfl) ?_
        refine x_goV (x_runV (As := [.ref (vk b (sl i)), .int (nI z)]) (rest := []) ⟨hx, hb, hml, hown, hts⟩ hE h0 hS (c_X2_parseWithLetterBehind l G b L txt sl sp P0 i (by omega) z (by omega) (by omega) (by omega) H0 hB hVo) (cwV 2 hts gX2_early_X2_parseWithLetterBehind rfl rfl rfl (by decide +kernel) ⟨Nat.le_of_ble_eq_true rfl, Nat.le_of_ble_eq_true rfl⟩) (hB.recv hK) (by omega) rfl rfl hl.1 rfl (lv_room (Nat.le_of_ble_eq_true rfl)) dX2_early_65 ⟨by first | exact Nat.le_of_ble_eq_true rfl | omega, by first | exact Nat.le_of_ble_eq_true rfl | omega⟩) hS (by omega) (fun _ _ _ _ _ h => h.elim) (fun  H5 locs hq hF hS => ?_)
        have hO := hO.fr hF (by omega)
        have hO_i := hO_i.fr hF (by omega)
        have hB := hB.fr hF (by omega)
        have hP := hq
        have hOs := hP.1.1
        have hM_i := hM_i.fr hF (by omega)
        have gP : Gt (txt i ++ [45] ++ [z]) := Gt_let gM_i (by omega) (by omega) (by omega)
        refine lv_aload_n hx hb dX2_early_68 rfl (lv_at hl 1 rfl) ?_
        refine x_get (ci := 2) hx hb hts hown hK rfl hw4 5 (by decide) hw3 hO rfl dX2_early_69 ?_
        refine lv_aload hx hb dX2_early_72 (lv_at hl 0 rfl) ?_
        refine x_goI_ro (x_runV (As := [.ref (vk b (sl i))]) (rest := []) ⟨hx, hb, hml, hown, hts⟩ hE h0 hS (c_X1_orderTo l G (vk b sp) (vk b (sl i)) (txt i ++ [45] ++ [z]) (txt i) (tk (txt i ++ [45] ++ [z])) (tk (txt i)) gP.J gM_i.J H5 hP hM_i) (cwV 1 hts gX2_early_X1_orderTo rfl rfl rfl (by decide +kernel) ⟨Nat.le_of_ble_eq_true rfl, Nat.le_of_ble_eq_true rfl⟩) (hP.recv hK) (by omega) rfl rfl hl.1 rfl (lv_room (Nat.le_of_ble_eq_true rfl)) dX2_early_74 ⟨by first | exact Nat.le_of_ble_eq_true rfl | omega, by first | exact Nat.le_of_ble_eq_true rfl | omega⟩) hS (by omega) (fun _ _ _ _ _ h => h.elim) (fun locs hq hS => ?_)
        refine x_rw (z := ordr (txt i ++ [45] ++ [z]) (txt i)) rfl ?_
        refine lv_if_ge (tgt := 84) hx hb dX2_early_77 (by decide) (fun c77 => ?_) (fun c77 => ?_)
        · have hb0 := decide_eq_false (Int32.not_lt.mpr c77)
          refine lv_iconst (v := nI 0) hx hb dX2_early_84 (by decide) ?_
          refine lv_istore (lv' := [(5, .int (nI 0)), (4, .ref (vk b (sl i))), (0, .ref b), (1, .int (nI i)), (2, .int (nI z)), (3, .int (nI j))]) hx hb dX2_early_85 hl (by decide) rfl (fun ls hl => ?_)
          refine lv_aload_n hx hb dX2_early_87 rfl (lv_at hl 2 rfl) ?_
          refine lv_iload_n hx hb dX2_early_88 rfl (lv_at hl 5 rfl) ?_
          refine x_goI (x_runV (As := [.int (nI j)]) (rest := []) ⟨hx, hb, hml, hown, hts⟩ hE h0 hS (c_X2_exchangeSpare l G b L txt sl sp (txt i ++ [45] ++ [z]) j (by omega) gP H5 hB hP) (cwV 1 hts gX2_early_X2_exchangeSpare rfl rfl rfl (by decide +kernel) ⟨Nat.le_of_ble_eq_true rfl, Nat.le_of_ble_eq_true rfl⟩) (hB.recv hK) (by omega) rfl rfl hl.1 rfl (lv_room (Nat.le_of_ble_eq_true rfl)) dX2_early_89 ⟨by first | exact Nat.le_of_ble_eq_true rfl | omega, by first | exact Nat.le_of_ble_eq_true rfl | omega⟩) hS (by omega) (fun _ _ _ _ _ h => h.elim) (fun r8 H7 locs hq hF hS => ?_)
          obtain ⟨hr1, hX1⟩ := hq
          refine lv_pop hx hb dX2_early_92 rfl ?_
          refine lv_iload hx hb dX2_early_93 (lv_at hl 0 rfl) ?_
          exact x_zret hx hb hr hlocks h0 hS (by omega) (by omega) dX2_early_95 (by first | rfl | exact bI_nar _) (⟨⟨⟨⟨i, hi, rfl⟩, j, hj, rfl⟩, by omega, by rw [ix_N (by omega)]; omega⟩, by rw [ix_N (by omega), hb0]; rfl, by rw [ix_N (by omega), ix_N (by omega)]; exact hX1⟩)
        · have hb0 := decide_eq_true (Int32.not_le.mp c77)
          refine lv_iconst (v := nI 1) hx hb dX2_early_80 (by decide) ?_
          refine lv_goto (tgt := 85) hx hb dX2_early_81 (by decide) ?_
          refine lv_istore (lv' := [(5, .int (nI 1)), (4, .ref (vk b (sl i))), (0, .ref b), (1, .int (nI i)), (2, .int (nI z)), (3, .int (nI j))]) hx hb dX2_early_85 hl (by decide) rfl (fun ls hl => ?_)
          refine lv_aload_n hx hb dX2_early_87 rfl (lv_at hl 2 rfl) ?_
          refine lv_iload_n hx hb dX2_early_88 rfl (lv_at hl 5 rfl) ?_
          refine x_goI (x_runV (As := [.int (nI j)]) (rest := []) ⟨hx, hb, hml, hown, hts⟩ hE h0 hS (c_X2_exchangeSpare l G b L txt sl sp (txt i ++ [45] ++ [z]) j (by omega) gP H5 hB hP) (cwV 1 hts gX2_early_X2_exchangeSpare rfl rfl rfl (by decide +kernel) ⟨Nat.le_of_ble_eq_true rfl, Nat.le_of_ble_eq_true rfl⟩) (hB.recv hK) (by omega) rfl rfl hl.1 rfl (lv_room (Nat.le_of_ble_eq_true rfl)) dX2_early_89 ⟨by first | exact Nat.le_of_ble_eq_true rfl | omega, by first | exact Nat.le_of_ble_eq_true rfl | omega⟩) hS (by omega) (fun _ _ _ _ _ h => h.elim) (fun r10 H9 locs hq hF hS => ?_)
          obtain ⟨hr1, hX1⟩ := hq
          refine lv_pop hx hb dX2_early_92 rfl ?_
          refine lv_iload hx hb dX2_early_93 (lv_at hl 0 rfl) ?_
          exact x_zret hx hb hr hlocks h0 hS (by omega) (by omega) dX2_early_95 (by first | rfl | exact bI_nar _) (⟨⟨⟨⟨i, hi, rfl⟩, j, hj, rfl⟩, by omega, by rw [ix_N (by omega)]; omega⟩, by rw [ix_N (by omega), hb0]; rfl, by rw [ix_N (by omega), ix_N (by omega)]; exact hX1⟩)
      · exact x_throw (cls := xIS) (text := "the version has an early row") hx hb hE h0 hS hown hlocks hout (by rw [hml]; exact hl.1) (by decide) hw5 hw6 ot_IS (by decide +kernel) nb_IS (fun w h => by first | exact hts w (List.mem_cons_of_mem _ (List.mem_append_right _ h)) | exact hts w (List.mem_cons_of_mem _ (List.mem_append_left _ (List.mem_append_right _ h))) | exact hts w (List.mem_cons_of_mem _ (List.mem_append_left _ (List.mem_append_left _ (List.mem_append_right _ h))))) dX2_early_42 dX2_early_45 dX2_early_46 dX2_early_48 dX2_early_51 (Nat.le_of_ble_eq_true rfl) (Nat.le_of_ble_eq_true rfl) (Nat.le_of_ble_eq_true rfl) (Nat.le_of_ble_eq_true rfl) (by omega) (by omega) (fun H1 hF => ⟨Or.inr (Or.inr ⟨rfl, ⟨⟨i, hi, rfl⟩, j, hj, rfl⟩, by omega, by rw [ix_N (by omega)]; have := of_decide_eq_true c39; omega⟩), (XW.mk' hB hVo).fr hF (by omega)⟩)
    · exact x_throw (cls := xIA) (text := "the letters are a to z") hx hb hE h0 hS hown hlocks hout (by rw [hml]; exact hl.1) (by decide) hw0 hw1 ot_IA (by decide +kernel) nb_IA (fun w h => by first | exact hts w (List.mem_cons_of_mem _ (List.mem_append_right _ h)) | exact hts w (List.mem_cons_of_mem _ (List.mem_append_left _ (List.mem_append_right _ h))) | exact hts w (List.mem_cons_of_mem _ (List.mem_append_left _ (List.mem_append_left _ (List.mem_append_right _ h))))) dX2_early_23 dX2_early_26 dX2_early_27 dX2_early_29 dX2_early_32 (Nat.le_of_ble_eq_true rfl) (Nat.le_of_ble_eq_true rfl) (Nat.le_of_ble_eq_true rfl) (Nat.le_of_ble_eq_true rfl) (by omega) (by omega) (fun H1 hF => ⟨Or.inr (Or.inl ⟨rfl, ⟨⟨i, hi, rfl⟩, j, hj, rfl⟩, by omega⟩), (XW.mk' hB hVo).fr hF (by omega)⟩)

abbrev RMX2_built : Room := { frames := 8, cells := 5, slots := 30, locals := 158 }
set_option maxHeartbeats 4000000 in
set_option maxRecDepth 100000 in
theorem c_X2_built (l : Launch) (G : gG) (b : Nat) (L : List Nat) (txt : Nat → List Nat) (x z y : Int32) (H0 : Heap) (hXW : XW G b L txt H0) : XM l yX2_built wsX2_built RMX2_built G [.ref b, .int x, .int z, .int y] H0 b (b + 115) 5 30 (qI (fun r H1 => ((okN 8 x ∧ okN 8 y) ∧ okN 1000 z ∧ (0 < (tk (txt (ix x)) 1).length ∧ (tk (txt (ix x)) 2).length = 0 ∧ (txt (ix x)).length + (1 + dgs (ix z)) ≤ 60)) ∧ r = ordr (txt (ix x) ++ [43] ++ dg (ix z)) (txt (ix x)) ∧ XW G b L (up txt (ix y) (txt (ix x) ++ [43] ++ dg (ix z))) H1)) (fun E H1 => ((E = xIO ∧ ¬ (okN 8 x ∧ okN 8 y)) ∨ (E = xIA ∧ (okN 8 x ∧ okN 8 y) ∧ ¬ okN 1000 z) ∨ (E = xIS ∧ (okN 8 x ∧ okN 8 y) ∧ okN 1000 z ∧ ¬ (0 < (tk (txt (ix x)) 1).length ∧ (tk (txt (ix x)) 2).length = 0 ∧ (txt (ix x)).length + (1 + dgs (ix z)) ≤ 60))) ∧ XW G b L txt H1) := by
  refine x_ofW (cc := cX2_built) (maxL := 6) (ret := (some .int)) (by decide) rfl (Nat.le_of_ble_eq_true rfl) ?_
  intro p e s m below meth c hx hb hr hml hown hts hlocks hout hin2 h0 hE ls hl
  replace hown : s.vm.findClass RX2 = some m.cls := hown
  have hK := hE.1
  have hS : va_S (gA b (b + 115) H0.size) H0 H0 [] := va_S.rf
  generalize hargs : ([.ref b, .int x, .int z, .int y] : List Value).toArray = args at hts ⊢
  have hw0 := hts (.classLink RX2 160 xIS) (by decide +kernel)
  have hw1 := hts (.initialized xIS) (by decide +kernel)
  have hw2 : ∀ w ∈ u_ws RX1 TX1 4, w ∈ wsX2_built := by decide +kernel
  have hw3 := hts (.fieldLink RX2 33 "Releaseledger" "spare" "LReleaseledger$Version;") (by decide +kernel)
  have hw4 : ∀ w ∈ u_ws RX2 TX2 6, w ∈ wsX2_built := by decide +kernel
  have hl : lv_has ls 6 [(0, .ref b), (1, .int x), (2, .int z), (3, .int y)] := hl
  obtain ⟨sl, sp, P0, hB, hVo⟩ := hXW
  have hrg := hB.rng
  have hO := hB.O
  have hT := hB.T
  obtain ⟨f3, hSl, hsl⟩ := hB.2.2.1
  have hTn := hT.le
  have hOs := hVo.1.1
  have hVt := hVo.2.1
  refine lv_aload_n hx hb dX2_built_0 rfl (lv_at hl 0 rfl) ?_
  refine lv_iload_n hx hb dX2_built_1 rfl (lv_at hl 1 rfl) ?_
  refine x_goR_ro (x_runV (As := [.int x]) (rest := []) ⟨hx, hb, hml, hown, hts⟩ hE h0 hS (c_X2_versionIn l G b L txt sl sp x H0 hB) (cwV 1 hts gX2_built_X2_versionIn rfl rfl rfl (by decide +kernel) ⟨Nat.le_of_ble_eq_true rfl, Nat.le_of_ble_eq_true rfl⟩) (hB.recv hK) (by omega) rfl rfl hl.1 rfl (lv_room (Nat.le_of_ble_eq_true rfl)) dX2_built_2 ⟨by first | exact Nat.le_of_ble_eq_true rfl | omega, by first | exact Nat.le_of_ble_eq_true rfl | omega⟩) hS (by omega) (fun E ce q9 H1 locs1 hXx hFx hSx hce hcv hcl => x_thru hout hlocks h0 hSx hce hcv hcl (⟨Or.inl ⟨hXx.1, fun h => hXx.2 h.1⟩, (XW.mk' hB hVo).fr hFx (by omega)⟩) (by omega) (by omega)) (fun locs hq hS => ?_)
  obtain ⟨i, hi, rfl⟩ := hq
  refine x_rwr (z := vk b (sl i)) (by rw [ix_N (by omega)]) ?_
  have hM_i := hB.V (i := i) (by omega)
  have hO_i := hM_i.1.1
  have hMt_i := hM_i.2.1
  have hMn_i := hMt_i.le
  have hdis_i := hB.dis (i := i) (by omega)
  have gM_i := hB.g (i := i) (by omega)
  have hri_i := hB.rngi (i := i) (by omega)
  refine lv_astore (lv' := [(4, .ref (vk b (sl i))), (0, .ref b), (1, .int (nI i)), (2, .int z), (3, .int y)]) hx hb dX2_built_5 hl (by decide) rfl (fun ls hl => ?_)
  refine lv_iload_n hx hb dX2_built_7 rfl (lv_at hl 4 rfl) ?_
  refine x_goV_ro (x_runS (As := [.int y]) (rest := []) ⟨hx, hb, hml, hown, hts⟩ hE h0 hS (c_X2_checkSlot l G y H0) (va_cwS 1 hts gX2_built_X2_checkSlot rfl rfl rfl (by decide +kernel) ⟨Nat.le_of_ble_eq_true rfl, Nat.le_of_ble_eq_true rfl⟩) (by omega) rfl rfl hl.1 rfl (lv_room (Nat.le_of_ble_eq_true rfl)) dX2_built_8 ⟨by first | exact Nat.le_of_ble_eq_true rfl | omega, by first | exact Nat.le_of_ble_eq_true rfl | omega⟩) hS (by omega) (fun E ce q9 H1 locs1 hXx hFx hSx hce hcv hcl => x_thru hout hlocks h0 hSx hce hcv hcl (⟨Or.inl ⟨hXx.1, fun h => hXx.2 h.2⟩, (XW.mk' hB hVo).fr hFx (by omega)⟩) (by omega) (by omega)) (fun locs hq hS => ?_)
  obtain ⟨j, hj, rfl⟩ := hq
  refine lv_iload_n hx hb dX2_built_11 rfl (lv_at hl 3 rfl) ?_
  refine lv_iconst (v := nI 0) hx hb dX2_built_12 (by decide) ?_
  refine lv_sipush (v := nI 999) hx hb dX2_built_13 (by decide) ?_
  refine x_goV_ro (x_runS (As := [.int z, .int (nI 0), .int (nI 999)]) (rest := []) ⟨hx, hb, hml, hown, hts⟩ hE h0 hS (c_X2_checkNumber l G z (nI 0) (nI 999) H0) (va_cwS 3 hts gX2_built_X2_checkNumber rfl rfl rfl (by decide +kernel) ⟨Nat.le_of_ble_eq_true rfl, Nat.le_of_ble_eq_true rfl⟩) (by omega) rfl rfl hl.1 rfl (lv_room (Nat.le_of_ble_eq_true rfl)) dX2_built_16 ⟨by first | exact Nat.le_of_ble_eq_true rfl | omega, by first | exact Nat.le_of_ble_eq_true rfl | omega⟩) hS (by omega) (fun E ce q9 H1 locs1 hXx hFx hSx hce hcv hcl => x_thru hout hlocks h0 hSx hce hcv hcl (⟨Or.inr (Or.inl ⟨hXx.1, ⟨⟨i, hi, rfl⟩, j, hj, rfl⟩, fun h => hXx.2 ((okNum (n := 999) (by decide)).mpr h)⟩), (XW.mk' hB hVo).fr hFx (by omega)⟩) (by omega) (by omega)) (fun locs hq hS => ?_)
  obtain ⟨k, hk, rfl⟩ := (okNum (n := 999) (by decide)).mp hq
  refine lv_aload hx hb dX2_built_19 (lv_at hl 0 rfl) ?_
  refine lv_iconst (v := nI 1) hx hb dX2_built_21 (by decide) ?_
  refine x_goI_ro (x_runV (As := [.int (nI 1)]) (rest := []) ⟨hx, hb, hml, hown, hts⟩ hE h0 hS (c_X1_hasRow l G (vk b (sl i)) (txt i) (tk (txt i)) 1 (by decide) H0 hM_i) (cwV 1 hts gX2_built_X1_hasRow rfl rfl rfl (by decide +kernel) ⟨Nat.le_of_ble_eq_true rfl, Nat.le_of_ble_eq_true rfl⟩) (hM_i.recv hK) (by omega) rfl rfl hl.1 rfl (lv_room (Nat.le_of_ble_eq_true rfl)) dX2_built_22 ⟨by first | exact Nat.le_of_ble_eq_true rfl | omega, by first | exact Nat.le_of_ble_eq_true rfl | omega⟩) hS (by omega) (fun _ _ _ _ _ h => h.elim) (fun locs hq hS => ?_)
  refine x_if_eqB (tgt := 37) hx hb dX2_built_25 (by decide) (fun c25 => ?_) (fun c25 => ?_)
  · exact x_throw (cls := xIS) (text := "the version has no early row, or a build row") hx hb hE h0 hS hown hlocks hout (by rw [hml]; exact hl.1) (by decide) hw0 hw1 ot_IS (by decide +kernel) nb_IS (fun w h => by first | exact hts w (List.mem_cons_of_mem _ (List.mem_append_right _ h)) | exact hts w (List.mem_cons_of_mem _ (List.mem_append_left _ (List.mem_append_right _ h))) | exact hts w (List.mem_cons_of_mem _ (List.mem_append_left _ (List.mem_append_left _ (List.mem_append_right _ h))))) dX2_built_37 dX2_built_40 dX2_built_41 dX2_built_43 dX2_built_46 (Nat.le_of_ble_eq_true rfl) (Nat.le_of_ble_eq_true rfl) (Nat.le_of_ble_eq_true rfl) (Nat.le_of_ble_eq_true rfl) (by omega) (by omega) (fun H1 hF => ⟨Or.inr (Or.inr ⟨rfl, ⟨⟨i, hi, rfl⟩, j, hj, rfl⟩, ⟨k, hk, rfl⟩, by rw [ix_N (by omega), ix_N (by omega)]; first | (have := of_decide_eq_false c25; omega) | (have := of_decide_eq_true c34; omega)⟩), (XW.mk' hB hVo).fr hF (by omega)⟩)
  · refine lv_aload hx hb dX2_built_28 (lv_at hl 0 rfl) ?_
    refine lv_iconst (v := nI 2) hx hb dX2_built_30 (by decide) ?_
    refine x_goI_ro (x_runV (As := [.int (nI 2)]) (rest := []) ⟨hx, hb, hml, hown, hts⟩ hE h0 hS (c_X1_hasRow l G (vk b (sl i)) (txt i) (tk (txt i)) 2 (by decide) H0 hM_i) (cwV 1 hts gX2_built_X1_hasRow rfl rfl rfl (by decide +kernel) ⟨Nat.le_of_ble_eq_true rfl, Nat.le_of_ble_eq_true rfl⟩) (hM_i.recv hK) (by omega) rfl rfl hl.1 rfl (lv_room (Nat.le_of_ble_eq_true rfl)) dX2_built_31 ⟨by first | exact Nat.le_of_ble_eq_true rfl | omega, by first | exact Nat.le_of_ble_eq_true rfl | omega⟩) hS (by omega) (fun _ _ _ _ _ h => h.elim) (fun locs hq hS => ?_)
    refine x_if_eqB (tgt := 47) hx hb dX2_built_34 (by decide) (fun c34 => ?_) (fun c34 => ?_)
    · have h10 := of_decide_eq_true c25
      have h20 := of_decide_eq_false c34
      refine lv_aload hx hb dX2_built_47 (lv_at hl 0 rfl) ?_
      refine x_getN (ci := 1) (host := RX2) hx hb hts hown hK rfl hw2 0 (by decide) (x_nest hE (by decide +kernel)) hO_i rfl dX2_built_49 ?_
      refine lv_iconst (v := nI 1) hx hb dX2_built_52 (by decide) ?_
      refine lv_iload_n hx hb dX2_built_53 rfl (lv_at hl 3 rfl) ?_
      refine x_goI_ro (x_runS (As := [.int (nI k)]) (rest := [.int (nI 1), .ref (vk b (sl i) + 1)]) ⟨hx, hb, hml, hown, hts⟩ hE h0 hS (c_X2_digitsOf l G k (by omega) H0) (va_cwS 1 hts gX2_built_X2_digitsOf rfl rfl rfl (by decide +kernel) ⟨Nat.le_of_ble_eq_true rfl, Nat.le_of_ble_eq_true rfl⟩) (by omega) rfl rfl hl.1 rfl (lv_room (Nat.le_of_ble_eq_true rfl)) dX2_built_54 ⟨by first | exact Nat.le_of_ble_eq_true rfl | omega, by first | exact Nat.le_of_ble_eq_true rfl | omega⟩) hS (by omega) (fun _ _ _ _ _ h => h.elim) (fun locs hq hS => ?_)
      have hd9 := dgs_lo (n := k) (by omega)
      have hd0 := dgs_pos k
      refine lv_iadd hx hb dX2_built_57 ?_
      refine x_rw (z := nI (1 + (dgs k))) (nI_add _ _) ?_
      refine x_goV_ro (x_runS (As := [.ref (vk b (sl i) + 1), .int (nI (1 + (dgs k)))]) (rest := []) ⟨hx, hb, hml, hown, hts⟩ hE h0 hS (c_X2_checkRoom l G (vk b (sl i) + 1) (txt i) (1 + dgs k) (by omega) H0 hMt_i) (va_cwS 2 hts gX2_built_X2_checkRoom rfl rfl rfl (by decide +kernel) ⟨Nat.le_of_ble_eq_true rfl, Nat.le_of_ble_eq_true rfl⟩) (by omega) rfl rfl hl.1 rfl (lv_room (Nat.le_of_ble_eq_true rfl)) dX2_built_58 ⟨by first | exact Nat.le_of_ble_eq_true rfl | omega, by first | exact Nat.le_of_ble_eq_true rfl | omega⟩) hS (by omega) (fun E ce q9 H1 locs1 hXx hFx hSx hce hcv hcl => x_thru hout hlocks h0 hSx hce hcv hcl (⟨Or.inr (Or.inr ⟨hXx.1, ⟨⟨i, hi, rfl⟩, j, hj, rfl⟩, ⟨k, hk, rfl⟩, by rw [ix_N (by omega), ix_N (by omega)]; exact fun h => hXx.2 h.2.2⟩), (XW.mk' hB hVo).fr hFx (by omega)⟩) (by omega) (by omega)) (fun locs hq hS => ?_)
      have hrm := hq
      refine lv_aload_n hx hb dX2_built_61 rfl (lv_at hl 1 rfl) ?_
      refine lv_aload hx hb dX2_built_62 (lv_at hl 0 rfl) ?_
      refine lv_bipush (v := nI 43) hx hb dX2_built_64 (by decide) ?_
      refine lv_iload_n hx hb dX2_built_66 rfl (lv_at hl 3 rfl) ?_
      refine x_goV (x_runV (As := [.ref (vk b (sl i)), .int (nI 43), .int (nI k)]) (rest := []) ⟨hx, hb, hml, hown, hts⟩ hE h0 hS (c_X2_parseWithNumberBehind l G b L txt sl sp P0 i (by omega) 43 k (by decide) (by omega) (by omega) H0 hB hVo) (cwV 3 hts gX2_built_X2_parseWithNumberBehind rfl rfl rfl (by decide +kernel) ⟨Nat.le_of_ble_eq_true rfl, Nat.le_of_ble_eq_true rfl⟩) (hB.recv hK) (by omega) rfl rfl hl.1 rfl (lv_room (Nat.le_of_ble_eq_true rfl)) dX2_built_67 ⟨by first | exact Nat.le_of_ble_eq_true rfl | omega, by first | exact Nat.le_of_ble_eq_true rfl | omega⟩) hS (by omega) (fun _ _ _ _ _ h => h.elim) (fun  H8 locs hq hF hS => ?_)
      have hO := hO.fr hF (by omega)
      have hO_i := hO_i.fr hF (by omega)
      have hB := hB.fr hF (by omega)
      have hP := hq
      have hOs := hP.1.1
      have hM_i := hM_i.fr hF (by omega)
      have gP : Gt (txt i ++ [43] ++ dg k) := Gt_plus gM_i (by omega) (by omega)
      refine lv_aload_n hx hb dX2_built_70 rfl (lv_at hl 1 rfl) ?_
      refine x_get (ci := 2) hx hb hts hown hK rfl hw4 5 (by decide) hw3 hO rfl dX2_built_71 ?_
      refine lv_aload hx hb dX2_built_74 (lv_at hl 0 rfl) ?_
      refine x_goI_ro (x_runV (As := [.ref (vk b (sl i))]) (rest := []) ⟨hx, hb, hml, hown, hts⟩ hE h0 hS (c_X1_orderTo l G (vk b sp) (vk b (sl i)) (txt i ++ [43] ++ dg k) (txt i) (tk (txt i ++ [43] ++ dg k)) (tk (txt i)) gP.J gM_i.J H8 hP hM_i) (cwV 1 hts gX2_built_X1_orderTo rfl rfl rfl (by decide +kernel) ⟨Nat.le_of_ble_eq_true rfl, Nat.le_of_ble_eq_true rfl⟩) (hP.recv hK) (by omega) rfl rfl hl.1 rfl (lv_room (Nat.le_of_ble_eq_true rfl)) dX2_built_76 ⟨by first | exact Nat.le_of_ble_eq_true rfl | omega, by first | exact Nat.le_of_ble_eq_true rfl | omega⟩) hS (by omega) (fun _ _ _ _ _ h => h.elim) (fun locs hq hS => ?_)
      refine x_rw (z := ordr (txt i ++ [43] ++ dg k) (txt i)) rfl ?_
      refine lv_istore (lv' := [(5, .int (ordr (txt i ++ [43] ++ dg k) (txt i))), (4, .ref (vk b (sl i))), (0, .ref b), (1, .int (nI i)), (2, .int (nI k)), (3, .int (nI j))]) hx hb dX2_built_79 hl (by decide) rfl (fun ls hl => ?_)
      refine lv_aload_n hx hb dX2_built_81 rfl (lv_at hl 2 rfl) ?_
      refine lv_iload_n hx hb dX2_built_82 rfl (lv_at hl 5 rfl) ?_
      refine x_goI (x_runV (As := [.int (nI j)]) (rest := []) ⟨hx, hb, hml, hown, hts⟩ hE h0 hS (c_X2_exchangeSpare l G b L txt sl sp (txt i ++ [43] ++ dg k) j (by omega) gP H8 hB hP) (cwV 1 hts gX2_built_X2_exchangeSpare rfl rfl rfl (by decide +kernel) ⟨Nat.le_of_ble_eq_true rfl, Nat.le_of_ble_eq_true rfl⟩) (hB.recv hK) (by omega) rfl rfl hl.1 rfl (lv_room (Nat.le_of_ble_eq_true rfl)) dX2_built_83 ⟨by first | exact Nat.le_of_ble_eq_true rfl | omega, by first | exact Nat.le_of_ble_eq_true rfl | omega⟩) hS (by omega) (fun _ _ _ _ _ h => h.elim) (fun r11 H10 locs hq hF hS => ?_)
      obtain ⟨hr1, hX1⟩ := hq
      refine lv_pop hx hb dX2_built_86 rfl ?_
      refine lv_iload hx hb dX2_built_87 (lv_at hl 0 rfl) ?_
      exact x_iret hx hb hr hlocks h0 hS (by omega) (by omega) dX2_built_89 (⟨⟨⟨⟨i, hi, rfl⟩, j, hj, rfl⟩, ⟨k, hk, rfl⟩, by rw [ix_N (by omega), ix_N (by omega)]; omega⟩, by rw [ix_N (by omega), ix_N (by omega)], by rw [ix_N (by omega), ix_N (by omega), ix_N (by omega)]; exact hX1⟩)
    · exact x_throw (cls := xIS) (text := "the version has no early row, or a build row") hx hb hE h0 hS hown hlocks hout (by rw [hml]; exact hl.1) (by decide) hw0 hw1 ot_IS (by decide +kernel) nb_IS (fun w h => by first | exact hts w (List.mem_cons_of_mem _ (List.mem_append_right _ h)) | exact hts w (List.mem_cons_of_mem _ (List.mem_append_left _ (List.mem_append_right _ h))) | exact hts w (List.mem_cons_of_mem _ (List.mem_append_left _ (List.mem_append_left _ (List.mem_append_right _ h))))) dX2_built_37 dX2_built_40 dX2_built_41 dX2_built_43 dX2_built_46 (Nat.le_of_ble_eq_true rfl) (Nat.le_of_ble_eq_true rfl) (Nat.le_of_ble_eq_true rfl) (Nat.le_of_ble_eq_true rfl) (by omega) (by omega) (fun H1 hF => ⟨Or.inr (Or.inr ⟨rfl, ⟨⟨i, hi, rfl⟩, j, hj, rfl⟩, ⟨k, hk, rfl⟩, by rw [ix_N (by omega), ix_N (by omega)]; first | (have := of_decide_eq_false c25; omega) | (have := of_decide_eq_true c34; omega)⟩), (XW.mk' hB hVo).fr hF (by omega)⟩)
