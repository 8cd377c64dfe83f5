abbrev RMX2_triple : Room := { frames := 7, cells := 4, slots := 24, locals := 158 }
set_option maxHeartbeats 4000000 in
set_option maxRecDepth 100000 in
theorem c_X2_triple (l : Launch) (G : gG) (b : Nat) (L : List Nat) (txt : Nat → List Nat) (x a_ b_ d_ : Int32) (H0 : Heap) (hXW : XW G b L txt H0) : XM l yX2_triple wsX2_triple RMX2_triple G [.ref b, .int x, .int a_, .int b_, .int d_] H0 b (b + 115) 4 24 (qI (fun r H1 => (okN 8 x ∧ (okN 1000000 a_ ∧ okN 1000000 b_ ∧ okN 1000000 d_)) ∧ r = ordr (dg (ix a_) ++ [46] ++ dg (ix b_) ++ [46] ++ dg (ix d_)) (txt (ix x)) ∧ XW G b L (up txt (ix x) (dg (ix a_) ++ [46] ++ dg (ix b_) ++ [46] ++ dg (ix d_))) H1)) (fun E H1 => ((E = xIO ∧ ¬ okN 8 x) ∨ (E = xIA ∧ okN 8 x ∧ ¬ (okN 1000000 a_ ∧ okN 1000000 b_ ∧ okN 1000000 d_))) ∧ XW G b L txt H1) := by
  refine x_ofW (cc := cX2_triple) (maxL := 5) (ret := (some .int)) (by decide) rfl (Nat.le_of_ble_eq_true rfl) ?_
  intro p e s m below meth c hx hb hr hml hown hts hlocks hout hin2 h0 hE ls hl
  replace hown : s.vm.findClass RX2 = some m.cls := hown
  have hK := hE.1
  have hS : va_S (gA b (b + 115) H0.size) H0 H0 [] := va_S.rf
  generalize hargs : ([.ref b, .int x, .int a_, .int b_, .int d_] : List Value).toArray = args at hts ⊢
  have hw0 := hts (.constant RX2 37 (999999)) (by decide +kernel)
  have hw1 := hts (.fieldLink RX2 33 "Releaseledger" "spare" "LReleaseledger$Version;") (by decide +kernel)
  have hw2 : ∀ w ∈ u_ws RX2 TX2 6, w ∈ wsX2_triple := by decide +kernel
  have hw3 : ∀ w ∈ u_ws RX1 TX1 4, w ∈ wsX2_triple := by decide +kernel
  have hl : lv_has ls 5 [(0, .ref b), (1, .int x), (2, .int a_), (3, .int b_), (4, .int d_)] := hl
  obtain ⟨sl, sp, P0, hB, hVo⟩ := hXW
  have hrg := hB.rng
  have hO := hB.O
  have hT := hB.T
  obtain ⟨f3, hSl, hsl⟩ := hB.2.2.1
  have hTn := hT.le
  have hOs := hVo.1.1
  have hVt := hVo.2.1
  refine lv_iload_n hx hb dX2_triple_0 rfl (lv_at hl 1 rfl) ?_
  refine x_goV_ro (x_runS (As := [.int x]) (rest := []) ⟨hx, hb, hml, hown, hts⟩ hE h0 hS (c_X2_checkSlot l G x H0) (va_cwS 1 hts gX2_triple_X2_checkSlot rfl rfl rfl (by decide +kernel) ⟨Nat.le_of_ble_eq_true rfl, Nat.le_of_ble_eq_true rfl⟩) (by omega) rfl rfl hl.1 rfl (lv_room (Nat.le_of_ble_eq_true rfl)) dX2_triple_1 ⟨by first | exact Nat.le_of_ble_eq_true rfl | omega, by first | exact Nat.le_of_ble_eq_true rfl | omega⟩) hS (by omega) (fun E ce q9 H1 locs1 hXx hFx hSx hce hcv hcl => x_thru hout hlocks h0 hSx hce hcv hcl (⟨Or.inl hXx, (XW.mk' hB hVo).fr hFx (by omega)⟩) (by omega) (by omega)) (fun locs hq hS => ?_)
  obtain ⟨i, hi, rfl⟩ := hq
  refine lv_iload_n hx hb dX2_triple_4 rfl (lv_at hl 2 rfl) ?_
  refine lv_iconst (v := nI 0) hx hb dX2_triple_5 (by decide) ?_
  refine lv_ldc hx hb hown hw0 dX2_triple_6 ?_
  refine x_rw (z := nI 999999) (by decide) ?_
  refine x_goV_ro (x_runS (As := [.int a_, .int (nI 0), .int (nI 999999)]) (rest := []) ⟨hx, hb, hml, hown, hts⟩ hE h0 hS (c_X2_checkNumber l G a_ (nI 0) (nI 999999) H0) (va_cwS 3 hts gX2_triple_X2_checkNumber rfl rfl rfl (by decide +kernel) ⟨Nat.le_of_ble_eq_true rfl, Nat.le_of_ble_eq_true rfl⟩) (by omega) rfl rfl hl.1 rfl (lv_room (Nat.le_of_ble_eq_true rfl)) dX2_triple_8 ⟨by first | exact Nat.le_of_ble_eq_true rfl | omega, by first | exact Nat.le_of_ble_eq_true rfl | omega⟩) hS (by omega) (fun E ce q9 H1 locs1 hXx hFx hSx hce hcv hcl => x_thru hout hlocks h0 hSx hce hcv hcl (⟨Or.inr ⟨hXx.1, ⟨i, hi, rfl⟩, fun h => hXx.2 ((okNum (n := 999999) (by decide)).mpr h.1)⟩, (XW.mk' hB hVo).fr hFx (by omega)⟩) (by omega) (by omega)) (fun locs hq hS => ?_)
  obtain ⟨a1, ha1, rfl⟩ := (okNum (n := 999999) (by decide)).mp hq
  refine lv_iload_n hx hb dX2_triple_11 rfl (lv_at hl 3 rfl) ?_
  refine lv_iconst (v := nI 0) hx hb dX2_triple_12 (by decide) ?_
  refine lv_ldc hx hb hown hw0 dX2_triple_13 ?_
  refine x_rw (z := nI 999999) (by decide) ?_
  refine x_goV_ro (x_runS (As := [.int b_, .int (nI 0), .int (nI 999999)]) (rest := []) ⟨hx, hb, hml, hown, hts⟩ hE h0 hS (c_X2_checkNumber l G b_ (nI 0) (nI 999999) H0) (va_cwS 3 hts gX2_triple_X2_checkNumber rfl rfl rfl (by decide +kernel) ⟨Nat.le_of_ble_eq_true rfl, Nat.le_of_ble_eq_true rfl⟩) (by omega) rfl rfl hl.1 rfl (lv_room (Nat.le_of_ble_eq_true rfl)) dX2_triple_15 ⟨by first | exact Nat.le_of_ble_eq_true rfl | omega, by first | exact Nat.le_of_ble_eq_true rfl | omega⟩) hS (by omega) (fun E ce q9 H1 locs1 hXx hFx hSx hce hcv hcl => x_thru hout hlocks h0 hSx hce hcv hcl (⟨Or.inr ⟨hXx.1, ⟨i, hi, rfl⟩, fun h => hXx.2 ((okNum (n := 999999) (by decide)).mpr h.2.1)⟩, (XW.mk' hB hVo).fr hFx (by omega)⟩) (by omega) (by omega)) (fun locs hq hS => ?_)
  obtain ⟨b1, hb1, rfl⟩ := (okNum (n := 999999) (by decide)).mp hq
  refine lv_iload hx hb dX2_triple_18 (lv_at hl 4 rfl) ?_
  refine lv_iconst (v := nI 0) hx hb dX2_triple_20 (by decide) ?_
  refine lv_ldc hx hb hown hw0 dX2_triple_21 ?_
  refine x_rw (z := nI 999999) (by decide) ?_
  refine x_goV_ro (x_runS (As := [.int d_, .int (nI 0), .int (nI 999999)]) (rest := []) ⟨hx, hb, hml, hown, hts⟩ hE h0 hS (c_X2_checkNumber l G d_ (nI 0) (nI 999999) H0) (va_cwS 3 hts gX2_triple_X2_checkNumber rfl rfl rfl (by decide +kernel) ⟨Nat.le_of_ble_eq_true rfl, Nat.le_of_ble_eq_true rfl⟩) (by omega) rfl rfl hl.1 rfl (lv_room (Nat.le_of_ble_eq_true rfl)) dX2_triple_23 ⟨by first | exact Nat.le_of_ble_eq_true rfl | omega, by first | exact Nat.le_of_ble_eq_true rfl | omega⟩) hS (by omega) (fun E ce q9 H1 locs1 hXx hFx hSx hce hcv hcl => x_thru hout hlocks h0 hSx hce hcv hcl (⟨Or.inr ⟨hXx.1, ⟨i, hi, rfl⟩, fun h => hXx.2 ((okNum (n := 999999) (by decide)).mpr h.2.2)⟩, (XW.mk' hB hVo).fr hFx (by omega)⟩) (by omega) (by omega)) (fun locs hq hS => ?_)
  obtain ⟨d1, hd1, rfl⟩ := (okNum (n := 999999) (by decide)).mp hq
  have gA : Gt (dg a1) := Gt_begin (n := a1) (z := 0) (by omega) (by omega)
  have ea := dgs_le 5 a1 (by omega)
  have eb := dgs_le 5 b1 (by omega)
  have ed := dgs_le 5 d1 (by omega)
  have el1 : (dg a1).length = dgs a1 := rfl
  have em1 : (dg a1 ++ [46]).length = dgs a1 + 1 := by rw [List.length_append, List.length_singleton]; rfl
  have el2 : (dg a1 ++ [46] ++ dg b1).length = dgs a1 + 1 + dgs b1 := by rw [List.length_append, em1]; rfl
  have em2 : (dg a1 ++ [46] ++ dg b1 ++ [46]).length = dgs a1 + 1 + dgs b1 + 1 := by rw [List.length_append, List.length_singleton, el2]
  have gAB : Gt (dg a1 ++ [46] ++ dg b1) := Gt_dot gA (by omega) (by omega)
  have gP : Gt (dg a1 ++ [46] ++ dg b1 ++ [46] ++ dg d1) := Gt_dot gAB (by omega) (by omega)
  refine lv_aload_n hx hb dX2_triple_26 rfl (lv_at hl 0 rfl) ?_
  refine x_get (ci := 2) hx hb hts hown hK rfl hw2 5 (by decide) hw1 hO rfl dX2_triple_27 ?_
  refine x_getN (ci := 1) (host := RX2) hx hb hts hown hK rfl hw3 0 (by decide) (x_nest hE (by decide +kernel)) hOs rfl dX2_triple_30 ?_
  refine x_goV (x_runV (As := []) (rest := []) ⟨hx, hb, hml, hown, hts⟩ hE h0 hS (c_X0_clear l G (vk b sp + 1) P0 H0 hVt) (cwV 0 hts gX2_triple_X0_clear rfl rfl rfl (by decide +kernel) ⟨Nat.le_of_ble_eq_true rfl, Nat.le_of_ble_eq_true rfl⟩) (hVt.recv hK) (by omega) rfl rfl hl.1 rfl (lv_room (Nat.le_of_ble_eq_true rfl)) dX2_triple_33 ⟨by first | exact Nat.le_of_ble_eq_true rfl | omega, by first | exact Nat.le_of_ble_eq_true rfl | omega⟩) hS (by omega) (fun _ _ _ _ _ h => h.elim) (fun  H5 locs hq hF hS => ?_)
  have hO := hO.fr hF (by omega)
  have hOs := hOs.fr hF (by omega)
  have hB := hB.fr hF (by omega)
  have hVo := hVo.setT hF hq
  have hVt := hq
  refine lv_aload_n hx hb dX2_triple_36 rfl (lv_at hl 0 rfl) ?_
  refine x_get (ci := 2) hx hb hts hown hK rfl hw2 5 (by decide) hw1 hO rfl dX2_triple_37 ?_
  refine x_getN (ci := 1) (host := RX2) hx hb hts hown hK rfl hw3 0 (by decide) (x_nest hE (by decide +kernel)) hOs rfl dX2_triple_40 ?_
  refine lv_iload_n hx hb dX2_triple_43 rfl (lv_at hl 2 rfl) ?_
  refine lv_iconst (v := nI 0) hx hb dX2_triple_44 (by decide) ?_
  refine x_goV (x_runV (As := [.int (nI a1), .int (nI 0)]) (rest := []) ⟨hx, hb, hml, hown, hts⟩ hE h0 hS (c_X0_putNumber l G (vk b sp + 1) [] a1 0 (by omega) (by decide) (by first | (simp; omega) | omega) H5 hVt) (cwV 2 hts gX2_triple_X0_putNumber rfl rfl rfl (by decide +kernel) ⟨Nat.le_of_ble_eq_true rfl, Nat.le_of_ble_eq_true rfl⟩) (hVt.recv hK) (by omega) rfl rfl hl.1 rfl (lv_room (Nat.le_of_ble_eq_true rfl)) dX2_triple_45 ⟨by first | exact Nat.le_of_ble_eq_true rfl | omega, by first | exact Nat.le_of_ble_eq_true rfl | omega⟩) hS (by omega) (fun _ _ _ _ _ h => h.elim) (fun  H6 locs hq hF hS => ?_)
  have hO := hO.fr hF (by omega)
  have hOs := hOs.fr hF (by omega)
  have hB := hB.fr hF (by omega)
  replace hq : Tx G (vk b sp + 1) (dg a1) H6 := by rw [List.replicate_zero, List.append_nil, List.nil_append] at hq; exact hq
  have hVo := hVo.setT hF hq
  have hVt := hq
  refine lv_aload_n hx hb dX2_triple_48 rfl (lv_at hl 0 rfl) ?_
  refine x_get (ci := 2) hx hb hts hown hK rfl hw2 5 (by decide) hw1 hO rfl dX2_triple_49 ?_
  refine x_getN (ci := 1) (host := RX2) hx hb hts hown hK rfl hw3 0 (by decide) (x_nest hE (by decide +kernel)) hOs rfl dX2_triple_52 ?_
  refine lv_bipush (v := nI 46) hx hb dX2_triple_55 (by decide) ?_
  refine x_goV (x_runV (As := [.int (nI 46)]) (rest := []) ⟨hx, hb, hml, hown, hts⟩ hE h0 hS (c_X0_put l G (vk b sp + 1) (dg a1) 46 (by omega) (by decide) H6 hVt) (cwV 1 hts gX2_triple_X0_put rfl rfl rfl (by decide +kernel) ⟨Nat.le_of_ble_eq_true rfl, Nat.le_of_ble_eq_true rfl⟩) (hVt.recv hK) (by omega) rfl rfl hl.1 rfl (lv_room (Nat.le_of_ble_eq_true rfl)) dX2_triple_57 ⟨by first | exact Nat.le_of_ble_eq_true rfl | omega, by first | exact Nat.le_of_ble_eq_true rfl | omega⟩) hS (by omega) (fun _ _ _ _ _ h => h.elim) (fun  H7 locs hq hF hS => ?_)
  have hO := hO.fr hF (by omega)
  have hOs := hOs.fr hF (by omega)
  have hB := hB.fr hF (by omega)
  have hVo := hVo.setT hF hq
  have hVt := hq
  refine lv_aload_n hx hb dX2_triple_60 rfl (lv_at hl 0 rfl) ?_
  refine x_get (ci := 2) hx hb hts hown hK rfl hw2 5 (by decide) hw1 hO rfl dX2_triple_61 ?_
  refine x_getN (ci := 1) (host := RX2) hx hb hts hown hK rfl hw3 0 (by decide) (x_nest hE (by decide +kernel)) hOs rfl dX2_triple_64 ?_
  refine lv_iload_n hx hb dX2_triple_67 rfl (lv_at hl 3 rfl) ?_
  refine lv_iconst (v := nI 0) hx hb dX2_triple_68 (by decide) ?_
  refine x_goV (x_runV (As := [.int (nI b1), .int (nI 0)]) (rest := []) ⟨hx, hb, hml, hown, hts⟩ hE h0 hS (c_X0_putNumber l G (vk b sp + 1) (dg a1 ++ [46]) b1 0 (by omega) (by decide) (by first | (simp; omega) | omega) H7 hVt) (cwV 2 hts gX2_triple_X0_putNumber rfl rfl rfl (by decide +kernel) ⟨Nat.le_of_ble_eq_true rfl, Nat.le_of_ble_eq_true rfl⟩) (hVt.recv hK) (by omega) rfl rfl hl.1 rfl (lv_room (Nat.le_of_ble_eq_true rfl)) dX2_triple_69 ⟨by first | exact Nat.le_of_ble_eq_true rfl | omega, by first | exact Nat.le_of_ble_eq_true rfl | omega⟩) hS (by omega) (fun _ _ _ _ _ h => h.elim) (fun  H8 locs hq hF hS => ?_)
  have hO := hO.fr hF (by omega)
  have hOs := hOs.fr hF (by omega)
  have hB := hB.fr hF (by omega)
  replace hq : Tx G (vk b sp + 1) (dg a1 ++ [46] ++ dg b1) H8 := by rw [List.replicate_zero, List.append_nil] at hq; exact hq
  have hVo := hVo.setT hF hq
  have hVt := hq
  refine lv_aload_n hx hb dX2_triple_72 rfl (lv_at hl 0 rfl) ?_
  refine x_get (ci := 2) hx hb hts hown hK rfl hw2 5 (by decide) hw1 hO rfl dX2_triple_73 ?_
  refine x_getN (ci := 1) (host := RX2) hx hb hts hown hK rfl hw3 0 (by decide) (x_nest hE (by decide +kernel)) hOs rfl dX2_triple_76 ?_
  refine lv_bipush (v := nI 46) hx hb dX2_triple_79 (by decide) ?_
  refine x_goV (x_runV (As := [.int (nI 46)]) (rest := []) ⟨hx, hb, hml, hown, hts⟩ hE h0 hS (c_X0_put l G (vk b sp + 1) (dg a1 ++ [46] ++ dg b1) 46 (by omega) (by decide) H8 hVt) (cwV 1 hts gX2_triple_X0_put rfl rfl rfl (by decide +kernel) ⟨Nat.le_of_ble_eq_true rfl, Nat.le_of_ble_eq_true rfl⟩) (hVt.recv hK) (by omega) rfl rfl hl.1 rfl (lv_room (Nat.le_of_ble_eq_true rfl)) dX2_triple_81 ⟨by first | exact Nat.le_of_ble_eq_true rfl | omega, by first | exact Nat.le_of_ble_eq_true rfl | omega⟩) hS (by omega) (fun _ _ _ _ _ h => h.elim) (fun  H9 locs hq hF hS => ?_)
  have hO := hO.fr hF (by omega)
  have hOs := hOs.fr hF (by omega)
  have hB := hB.fr hF (by omega)
  have hVo := hVo.setT hF hq
  have hVt := hq
  refine lv_aload_n hx hb dX2_triple_84 rfl (lv_at hl 0 rfl) ?_
  refine x_get (ci := 2) hx hb hts hown hK rfl hw2 5 (by decide) hw1 hO rfl dX2_triple_85 ?_
  refine x_getN (ci := 1) (host := RX2) hx hb hts hown hK rfl hw3 0 (by decide) (x_nest hE (by decide +kernel)) hOs rfl dX2_triple_88 ?_
  refine lv_iload hx hb dX2_triple_91 (lv_at hl 4 rfl) ?_
  refine lv_iconst (v := nI 0) hx hb dX2_triple_93 (by decide) ?_
  refine x_goV (x_runV (As := [.int (nI d1), .int (nI 0)]) (rest := []) ⟨hx, hb, hml, hown, hts⟩ hE h0 hS (c_X0_putNumber l G (vk b sp + 1) (dg a1 ++ [46] ++ dg b1 ++ [46]) d1 0 (by omega) (by decide) (by first | (simp; omega) | omega) H9 hVt) (cwV 2 hts gX2_triple_X0_putNumber rfl rfl rfl (by decide +kernel) ⟨Nat.le_of_ble_eq_true rfl, Nat.le_of_ble_eq_true rfl⟩) (hVt.recv hK) (by omega) rfl rfl hl.1 rfl (lv_room (Nat.le_of_ble_eq_true rfl)) dX2_triple_94 ⟨by first | exact Nat.le_of_ble_eq_true rfl | omega, by first | exact Nat.le_of_ble_eq_true rfl | omega⟩) hS (by omega) (fun _ _ _ _ _ h => h.elim) (fun  H10 locs hq hF hS => ?_)
  have hO := hO.fr hF (by omega)
  have hOs := hOs.fr hF (by omega)
  have hB := hB.fr hF (by omega)
  replace hq : Tx G (vk b sp + 1) (dg a1 ++ [46] ++ dg b1 ++ [46] ++ dg d1) H10 := by rw [List.replicate_zero, List.append_nil] at hq; exact hq
  have hVo := hVo.setT hF hq
  have hVt := hq
  refine lv_aload_n hx hb dX2_triple_97 rfl (lv_at hl 0 rfl) ?_
  refine x_get (ci := 2) hx hb hts hown hK rfl hw2 5 (by decide) hw1 hO rfl dX2_triple_98 ?_
  refine x_goV (x_runV (As := []) (rest := []) ⟨hx, hb, hml, hown, hts⟩ hE h0 hS (c_X1_readTokens l G (vk b sp) (dg a1 ++ [46] ++ dg b1 ++ [46] ++ dg d1) H10 hVo) (cwV 0 hts gX2_triple_X1_readTokens rfl rfl rfl (by decide +kernel) ⟨Nat.le_of_ble_eq_true rfl, Nat.le_of_ble_eq_true rfl⟩) (hVo.recv hK) (by omega) rfl rfl hl.1 rfl (lv_room (Nat.le_of_ble_eq_true rfl)) dX2_triple_101 ⟨by first | exact Nat.le_of_ble_eq_true rfl | omega, by first | exact Nat.le_of_ble_eq_true rfl | omega⟩) hS (by omega) (fun _ _ _ _ _ h => h.elim) (fun  H11 locs hq hF hS => ?_)
  have hO := hO.fr hF (by omega)
  have hB := hB.fr hF (by omega)
  have hP := hq
  refine lv_aload_n hx hb dX2_triple_104 rfl (lv_at hl 0 rfl) ?_
  refine lv_iload_n hx hb dX2_triple_105 rfl (lv_at hl 1 rfl) ?_
  refine x_goI (x_runV (As := [.int (nI i)]) (rest := []) ⟨hx, hb, hml, hown, hts⟩ hE h0 hS (c_X2_exchangeSpare l G b L txt sl sp (dg a1 ++ [46] ++ dg b1 ++ [46] ++ dg d1) i (by omega) gP H11 hB hP) (cwV 1 hts gX2_triple_X2_exchangeSpare rfl rfl rfl (by decide +kernel) ⟨Nat.le_of_ble_eq_true rfl, Nat.le_of_ble_eq_true rfl⟩) (hB.recv hK) (by omega) rfl rfl hl.1 rfl (lv_room (Nat.le_of_ble_eq_true rfl)) dX2_triple_106 ⟨by first | exact Nat.le_of_ble_eq_true rfl | omega, by first | exact Nat.le_of_ble_eq_true rfl | omega⟩) hS (by omega) (fun _ _ _ _ _ h => h.elim) (fun r13 H12 locs hq hF hS => ?_)
  obtain ⟨hr1, hX1⟩ := hq
  exact x_iret hx hb hr hlocks h0 hS (by omega) (by omega) dX2_triple_109 (⟨⟨⟨i, hi, rfl⟩, ⟨a1, ha1, rfl⟩, ⟨b1, hb1, rfl⟩, d1, hd1, rfl⟩, by rw [hr1, ix_N (by omega), ix_N (by omega), ix_N (by omega), ix_N (by omega)], by rw [ix_N (by omega), ix_N (by omega), ix_N (by omega), ix_N (by omega)]; exact hX1⟩)

abbrev RMX2_wordShare : Room := { frames := 2, cells := 0, slots := 0, locals := 35 }
set_option maxHeartbeats 4000000 in
set_option maxRecDepth 100000 in
theorem c_X2_wordShare (l : Launch) (G : gG) (b : Nat) (L : List Nat) (txt : Nat → List Nat) (H0 : Heap) (hXW : XW G b L txt H0) : XM l yX2_wordShare wsX2_wordShare RMX2_wordShare G [.ref b] H0 0 0 0 0 (roF H0 (shr txt) True) xN := by
  refine x_ofW (cc := cX2_wordShare) (maxL := 4) (ret := (some .float)) (by decide) rfl (Nat.le_of_ble_eq_true rfl) ?_
  intro p e s m below meth c hx hb hr hml hown hts hlocks hout hin2 h0 hE ls hl
  replace hown : s.vm.findClass RX2 = some m.cls := hown
  have hK := hE.1
  have hS : va_S (gA 0 0 H0.size) H0 H0 [] := va_S.rf
  generalize hargs : ([.ref b] : List Value).toArray = args at hts ⊢
  have hw0 := hts (.fieldLink RX2 18 "Releaseledger" "slots" "[LReleaseledger$Version;") (by decide +kernel)
  have hw1 : ∀ w ∈ u_ws RX2 TX2 6, w ∈ wsX2_wordShare := by decide +kernel
  have hl : lv_has ls 4 [(0, .ref b)] := hl
  obtain ⟨sl, sp, P0, hB, hVo⟩ := hXW
  have hrg := hB.rng
  have hO := hB.O
  have hT := hB.T
  obtain ⟨f3, hSl, hsl⟩ := hB.2.2.1
  have hTn := hT.le
  have hOs := hVo.1.1
  have hVt := hVo.2.1
  have hgs : ∀ i, i < 8 → Gt (txt i) := fun i hi => hB.g hi
  refine lv_iconst (v := nI 0) hx hb dX2_wordShare_0 (by decide) ?_
  refine lv_istore_n (lv' := [(1, .int (nI 0)), (0, .ref b)]) hx hb dX2_wordShare_1 rfl hl (by decide) rfl (fun ls hl => ?_)
  refine lv_iconst (v := nI 0) hx hb dX2_wordShare_2 (by decide) ?_
  refine lv_istore_n (lv' := [(2, .int (nI 0)), (1, .int (nI 0)), (0, .ref b)]) hx hb dX2_wordShare_3 rfl hl (by decide) rfl (fun ls hl => ?_)
  refine lv_iconst (v := nI 0) hx hb dX2_wordShare_4 (by decide) ?_
  refine lv_istore_n (lv' := [(3, .int (nI 0)), (2, .int (nI 0)), (1, .int (nI 0)), (0, .ref b)]) hx hb dX2_wordShare_5 rfl hl (by decide) rfl (fun ls hl => ?_)
  have loop6 : ∀ (fu : Nat) (p_ q_ j : Nat) (hp_ : p_ = shW txt j) (hq_ : q_ = shA txt j) (hj : j ≤ 8) (locs : List Loc) (hS : va_S (gA 0 0 H0.size) H0 H0 locs) (ls : Array Slot), 8 - j < fu → lv_has ls 4 [(3, .int (nI j)), (2, .int (nI q_)), (1, .int (nI p_)), (0, .ref b)] → W p l e RMX2_wordShare s m args below meth c H0 locs 0 0 (XQ below args s H0 0 0 0 0 (roF H0 (shr txt) True) xN) (F0 m 6 ls []) := by
    intro fu6
    induction fu6 with
    | zero => intro p_ q_ j hp_ hq_ hj locs hS  ls hmu; exact absurd hmu (Nat.not_lt_zero _)
    | succ fu6 ih6 =>
      intro p_ q_ j hp_ hq_ hj locs hS  ls hmu6 hl
      refine lv_iload_n hx hb dX2_wordShare_6 rfl (lv_at hl 0 rfl) ?_
      refine lv_bipush (v := nI 8) hx hb dX2_wordShare_7 (by decide) ?_
      refine x_icmp_ge (tgt := 42) hx hb (by omega) (by omega) dX2_wordShare_9 (by decide) (fun c9 => ?_) (fun c9 => ?_)
      · have hj8 : j = 8 := by omega
        rw [hj8] at hp_ hq_
        have hlo := shA_lo hgs 8 (Nat.le_refl _)
        have hhi := shA_hi hgs 8 (Nat.le_refl _)
        have hne : vf_n32 (FP.fdiv (FP.i2f (nI p_)) (FP.i2f (nI q_))) := by rw [hp_, hq_]; exact (shr_ok hgs).1
        refine lv_iload_n hx hb dX2_wordShare_42 rfl (lv_at hl 1 rfl) ?_
        refine x_if_neN (tgt := 48) hx hb (by omega) dX2_wordShare_43 (by decide) (fun c43 => ?_) (fun c43 => ?_)
        · refine lv_iload_n hx hb dX2_wordShare_48 rfl (lv_at hl 2 rfl) ?_
          refine lv_i2f hx hb dX2_wordShare_49 ?_
          refine lv_iload_n hx hb dX2_wordShare_50 rfl (lv_at hl 1 rfl) ?_
          refine lv_i2f hx hb dX2_wordShare_51 ?_
          refine lv_fdiv hx hb dX2_wordShare_52 hne ?_
          exact x_fret hx hb hr hlocks h0 hS (by omega) (by omega) dX2_wordShare_53 (⟨rfl, by rw [hp_, hq_]; rfl, trivial⟩)
        · exact absurd c43 (by omega)
      · have hM_j := hB.V (i := j) (by omega)
        have gM_j := hB.g (i := j) (by omega)
        refine lv_iload_n hx hb dX2_wordShare_12 rfl (lv_at hl 2 rfl) ?_
        refine lv_aload_n hx hb dX2_wordShare_13 rfl (lv_at hl 3 rfl) ?_
        refine x_get (ci := 2) hx hb hts hown hK rfl hw1 1 (by decide) hw0 hO rfl dX2_wordShare_14 ?_
        refine lv_iload_n hx hb dX2_wordShare_17 rfl (lv_at hl 0 rfl) ?_
        refine x_aald (k := 2) (v := (vk b (sl j))) hx hb hK (by decide) rfl hSl (by omega) (by decide) (hsl _ (by omega)) dX2_wordShare_18 ?_
        refine x_goI_ro (x_runV (As := []) (rest := [.int (nI p_)]) ⟨hx, hb, hml, hown, hts⟩ hE h0 hS (c_X1_words l G (vk b (sl j)) (txt j) (tk (txt j)) gM_j.J H0 hM_j) (cwV 0 hts gX2_wordShare_X1_words rfl rfl rfl (by decide +kernel) ⟨Nat.le_of_ble_eq_true rfl, Nat.le_of_ble_eq_true rfl⟩) (hM_j.recv hK) (by omega) rfl rfl hl.1 rfl (lv_room (Nat.le_of_ble_eq_true rfl)) dX2_wordShare_19 ⟨by first | exact Nat.le_of_ble_eq_true rfl | omega, by first | exact Nat.le_of_ble_eq_true rfl | omega⟩) hS (by omega) (fun _ _ _ _ _ h => h.elim) (fun locs hq hS => ?_)
        refine lv_iadd hx hb dX2_wordShare_22 ?_
        refine x_rw (z := nI (p_ + (wct (txt j) (tk (txt j)) 3))) (nI_add _ _) ?_
        refine lv_istore_n (lv' := [(1, .int (nI (p_ + (wct (txt j) (tk (txt j)) 3)))), (3, .int (nI j)), (2, .int (nI q_)), (0, .ref b)]) hx hb dX2_wordShare_23 rfl hl (by decide) rfl (fun ls hl => ?_)
        refine lv_iload_n hx hb dX2_wordShare_24 rfl (lv_at hl 2 rfl) ?_
        refine lv_aload_n hx hb dX2_wordShare_25 rfl (lv_at hl 3 rfl) ?_
        refine x_get (ci := 2) hx hb hts hown hK rfl hw1 1 (by decide) hw0 hO rfl dX2_wordShare_26 ?_
        refine lv_iload_n hx hb dX2_wordShare_29 rfl (lv_at hl 1 rfl) ?_
        refine x_aald (k := 2) (v := (vk b (sl j))) hx hb hK (by decide) rfl hSl (by omega) (by decide) (hsl _ (by omega)) dX2_wordShare_30 ?_
        refine x_goI_ro (x_runV (As := []) (rest := [.int (nI q_)]) ⟨hx, hb, hml, hown, hts⟩ hE h0 hS (c_X1_allTokens l G (vk b (sl j)) (txt j) (tk (txt j)) H0 hM_j) (cwV 0 hts gX2_wordShare_X1_allTokens rfl rfl rfl (by decide +kernel) ⟨Nat.le_of_ble_eq_true rfl, Nat.le_of_ble_eq_true rfl⟩) (hM_j.recv hK) (by omega) rfl rfl hl.1 rfl (lv_room (Nat.le_of_ble_eq_true rfl)) dX2_wordShare_31 ⟨by first | exact Nat.le_of_ble_eq_true rfl | omega, by first | exact Nat.le_of_ble_eq_true rfl | omega⟩) hS (by omega) (fun _ _ _ _ _ h => h.elim) (fun locs hq hS => ?_)
        refine lv_iadd hx hb dX2_wordShare_34 ?_
        refine x_rw (z := nI (q_ + (cntT (tk (txt j)) 3))) (nI_add _ _) ?_
        refine lv_istore_n (lv' := [(2, .int (nI (q_ + (cntT (tk (txt j)) 3)))), (1, .int (nI (p_ + (wct (txt j) (tk (txt j)) 3)))), (3, .int (nI j)), (0, .ref b)]) hx hb dX2_wordShare_35 rfl hl (by decide) rfl (fun ls hl => ?_)
        refine lv_iinc (v := nI (j + 1)) (lv' := [(3, .int (nI (j + 1))), (2, .int (nI (q_ + (cntT (tk (txt j)) 3)))), (1, .int (nI (p_ + (wct (txt j) (tk (txt j)) 3)))), (0, .ref b)]) hx hb dX2_wordShare_36 hl (k := 2) rfl (nI_1 _) (by decide) rfl (fun ls hl => ?_)
        refine lv_goto (tgt := 6) hx hb dX2_wordShare_39 (by decide) ?_
        exact ih6 (p_ + (wct (txt j) (tk (txt j)) 3)) (q_ + (cntT (tk (txt j)) 3)) (j + 1) (by rw [hp_]; rfl) (by rw [hq_]; rfl) (by omega) _ hS ls (by omega) (lv_sub hl [0, 1, 2, 3] rfl)
  exact loop6 _ 0 0 0 rfl rfl (by omega) _ hS ls (Nat.lt_succ_self _) (lv_sub hl [0, 1, 2, 3] rfl)

abbrev RMX3_wordShare : Room := { frames := 4, cells := 0, slots := 0, locals := 81 }
set_option maxHeartbeats 4000000 in
set_option maxRecDepth 100000 in
theorem c_X3_wordShare (l : Launch) (G : gG) (y : Nat) (L : List Nat) (txt : Nat → List Nat) (th : Int32) (H0 : Heap) (hMW : MW G y L txt th H0) : XM l yX3_wordShare wsX3_wordShare RMX3_wordShare G [.ref y] H0 y (y + 34) 0 0 (qF (fun r H1 => r = shr txt ∧ MW G y L txt 0 H1)) xN := by
  refine x_ofW (cc := cX3_wordShare) (maxL := 6) (ret := (some .float)) (by decide) rfl (Nat.le_of_ble_eq_true rfl) ?_
  intro p e s m below meth c hx hb hr hml hown hts hlocks hout hin2 h0 hE ls hl
  replace hown : s.vm.findClass RX3 = some m.cls := hown
  have hK := hE.1
  have hS : va_S (gA y (y + 34) H0.size) H0 H0 [] := va_S.rf
  generalize hargs : ([.ref y] : List Value).toArray = args at hts ⊢
  have hw0 := hts (.fieldLink RX3 39 "ReleaseledgerModel" "thrown" "I") (by decide +kernel)
  have hw1 : ∀ w ∈ u_ws RX3 TX3 9, w ∈ wsX3_wordShare := by decide +kernel
  have hw2 := hts (.fieldLink RX3 28 "ReleaseledgerModel" "many" "[[I") (by decide +kernel)
  have hl : lv_has ls 6 [(0, .ref y)] := hl
  obtain ⟨tad, w, hMT, hLA⟩ := hMW
  generalize hTe : H0.size = T at hMT
  obtain ⟨hO, hTd, ⟨f2, hf2, hf2b⟩, ⟨f11, hf11, hf11b⟩, htx, hLd, hyT, hTs⟩ := id hMT
  have hTd0 := hTd
  obtain ⟨fd, hD, hDf, hDn, hDc⟩ := hTd
  have hTe2 : T = H0.size := hTe.symm
  have hLE : LE G y H0 := ⟨w, hLA⟩
  refine lv_aload_n hx hb dX3_wordShare_0 rfl (lv_at hl 0 rfl) ?_
  refine lv_iconst (v := nI 0) hx hb dX3_wordShare_1 (by decide) ?_
  refine x_put (ci := 3) hx hb hts hown hK rfl hw1 tyX3_ok nmX3 8 (by decide) hw0 rfl (tyX3_ok 8 (by decide)) rfl rfl hO (Nat.le_of_ble_eq_true rfl) hS (by unfold gA; omega) dX3_wordShare_2 (fun H1 locs hO hF hz hS => ?_)
  have hO : gO G y 3 [.ref (y + 1), .int (nI L.length), .ref (y + 2), .ref (y + 11), .ref (y + 12), .ref (y + 13), .ref (y + 16), .ref (y + 25), .int (nI 0)] H1 := hO
  have hLE := hLE.fr hF (by omega)
  have hMT := hMT.setO (th2 := 0) hF hO
  refine lv_iconst (v := nI 0) hx hb dX3_wordShare_5 (by decide) ?_
  refine lv_istore_n (lv' := [(1, .int (nI 0)), (0, .ref y)]) hx hb dX3_wordShare_6 rfl hl (by decide) rfl (fun ls hl => ?_)
  refine lv_iconst (v := nI 0) hx hb dX3_wordShare_7 (by decide) ?_
  refine lv_istore_n (lv' := [(2, .int (nI 0)), (1, .int (nI 0)), (0, .ref y)]) hx hb dX3_wordShare_8 rfl hl (by decide) rfl (fun ls hl => ?_)
  refine lv_iconst (v := nI 0) hx hb dX3_wordShare_9 (by decide) ?_
  refine lv_istore_n (lv' := [(3, .int (nI 0)), (2, .int (nI 0)), (1, .int (nI 0)), (0, .ref y)]) hx hb dX3_wordShare_10 rfl hl (by decide) rfl (fun ls hl => ?_)
  have loop11 : ∀ (fu : Nat) (p_ q_ j : Nat) (hp_ : p_ = shA txt j) (hq_ : q_ = shW txt j) (hj : j ≤ 8) (H : Heap) (locs : List Loc) (hS : va_S (gA y (y + 34) H0.size) H0 H locs) (hO : gO G y 3 [.ref (y + 1), .int (nI L.length), .ref (y + 2), .ref (y + 11), .ref (y + 12), .ref (y + 13), .ref (y + 16), .ref (y + 25), .int (nI 0)] H) (hLE : LE G y H) (hMT : MT G y T L txt tad 0 H) (ls : Array Slot), 8 - j < fu → lv_has ls 6 [(3, .int (nI j)), (2, .int (nI q_)), (1, .int (nI p_)), (0, .ref y)] → W p l e RMX3_wordShare s m args below meth c H locs 0 0 (XQ below args s H0 y (y + 34) 0 0 (qF (fun r H1 => r = shr txt ∧ MW G y L txt 0 H1)) xN) (F0 m 11 ls []) := by
    intro fu11
    induction fu11 with
    | zero => intro p_ q_ j hp_ hq_ hj H locs hS hO hLE hMT ls hmu; exact absurd hmu (Nat.not_lt_zero _)
    | succ fu11 ih11 =>
      intro p_ q_ j hp_ hq_ hj H locs hS hO hLE hMT ls hmu11 hl
      refine lv_iload_n hx hb dX3_wordShare_11 rfl (lv_at hl 0 rfl) ?_
      refine lv_bipush (v := nI 8) hx hb dX3_wordShare_12 (by decide) ?_
      refine x_icmp_ge (tgt := 99) hx hb (by omega) (by omega) dX3_wordShare_14 (by decide) (fun c14 => ?_) (fun c14 => ?_)
      · have hj8 : j = 8 := by omega
        rw [hj8] at hp_ hq_
        have hne : vf_n32 (FP.fdiv (FP.i2f (nI q_)) (FP.i2f (nI p_))) := by rw [hp_, hq_]; exact (shr_ok hMT.gs).1
        refine lv_iload_n hx hb dX3_wordShare_99 rfl (lv_at hl 1 rfl) ?_
        refine lv_i2f hx hb dX3_wordShare_100 ?_
        refine lv_iload_n hx hb dX3_wordShare_101 rfl (lv_at hl 2 rfl) ?_
        refine lv_i2f hx hb dX3_wordShare_102 ?_
        refine lv_fdiv hx hb dX3_wordShare_103 hne ?_
        exact x_fret hx hb hr hlocks h0 hS (by omega) (by omega) dX3_wordShare_104 (⟨by rw [hp_, hq_]; rfl, hMT.WE hLE⟩)
      · obtain ⟨w1, hLA⟩ := hLE
        refine lv_aload_n hx hb dX3_wordShare_17 rfl (lv_at hl 3 rfl) ?_
        refine lv_iconst (v := nI 0) hx hb dX3_wordShare_18 (by decide) ?_
        refine lv_iload_n hx hb dX3_wordShare_19 rfl (lv_at hl 0 rfl) ?_
        refine x_goV (x_runV (As := [.int (nI 0), .int (nI j)]) (rest := []) ⟨hx, hb, hml, hown, hts⟩ hE h0 hS (c_X3_look_ l G y T L txt tad 0 w1 0 (by decide) j (by omega) H hMT hLA) (cwV 2 hts gX3_wordShare_X3_look_ rfl rfl rfl (by decide +kernel) ⟨Nat.le_of_ble_eq_true rfl, Nat.le_of_ble_eq_true rfl⟩) (gO.recv (C := RX3) hK hO rfl) (by omega) rfl rfl hl.1 rfl (lv_room (Nat.le_of_ble_eq_true rfl)) dX3_wordShare_20 ⟨by first | exact Nat.le_of_ble_eq_true rfl | omega, by first | exact Nat.le_of_ble_eq_true rfl | omega⟩) hS (by omega) (fun _ _ _ _ _ h => h.elim) (fun  H2 locs hq hF hS => ?_)
        have hO := hO.fr hF (by omega)
        have hMT := hMT.fr hF (by omega)
        have hLA := hq
        obtain ⟨m13, m16, m25, lmid, ⟨fn, m12, hfn⟩, lcnt, ltok⟩ := id hLA
        obtain ⟨m17_s0, m26_s0⟩ := lmid 0 (by decide)
        obtain ⟨fm_s0, mm_s0, hfm_s0⟩ := lcnt 0 (by decide)
        replace hfm_s0 := hfm_s0 _ wset_self
        have h60_s0 := tk_le (txt j) 9
        have hgj := hMT.gt (i := j) (by omega)
        have hle_j := hgj.le
        refine lv_iconst (v := nI 0) hx hb dX3_wordShare_23 (by decide) ?_
        refine lv_istore (lv' := [(4, .int (nI 0)), (3, .int (nI j)), (2, .int (nI q_)), (1, .int (nI p_)), (0, .ref y)]) hx hb dX3_wordShare_24 hl (by decide) rfl (fun ls hl => ?_)
        have loop26 : ∀ (fu : Nat) (a_ b1 r : Nat) (ha_ : a_ = shA txt j + cntT (tk (txt j)) r) (hbw : b1 = shW txt j + wct (txt j) (tk (txt j)) r) (hr3 : r ≤ 3) (locs : List Loc) (hS : va_S (gA y (y + 34) H0.size) H0 H2 locs) (ls : Array Slot), 3 - r < fu → lv_has ls 6 [(4, .int (nI r)), (3, .int (nI j)), (2, .int (nI b1)), (1, .int (nI a_)), (0, .ref y)] → W p l e RMX3_wordShare s m args below meth c H2 locs (0 + 0) (0 + 0) (XQ below args s H0 y (y + 34) 0 0 (qF (fun r H1 => r = shr txt ∧ MW G y L txt 0 H1)) xN) (F0 m 26 ls []) := by
          intro fu26
          induction fu26 with
          | zero => intro a_ b1 r ha_ hbw hr3 locs hS  ls hmu; exact absurd hmu (Nat.not_lt_zero _)
          | succ fu26 ih26 =>
            intro a_ b1 r ha_ hbw hr3 locs hS  ls hmu26 hl
            refine lv_iload hx hb dX3_wordShare_26 (lv_at hl 0 rfl) ?_
            refine lv_iconst (v := nI 3) hx hb dX3_wordShare_28 (by decide) ?_
            refine x_icmp_ge (tgt := 93) hx hb (by omega) (by omega) dX3_wordShare_29 (by decide) (fun c29 => ?_) (fun c29 => ?_)
            · refine lv_iinc (v := nI (j + 1)) (lv' := [(3, .int (nI (j + 1))), (4, .int (nI r)), (2, .int (nI b1)), (1, .int (nI a_)), (0, .ref y)]) hx hb dX3_wordShare_93 hl (k := 1) rfl (nI_1 _) (by decide) rfl (fun ls hl => ?_)
              refine lv_goto (tgt := 11) hx hb dX3_wordShare_96 (by decide) ?_
              have hLE : LE G y H2 := ⟨_, hLA⟩
              exact ih11 a_ b1 (j + 1) (by rw [ha_, show r = 3 by omega]; rfl) (by rw [hbw, show r = 3 by omega]; rfl) (by omega) H2 _ hS hO hLE hMT ls (by omega) (lv_sub hl [0, 2, 3, 4] rfl)
            · have hk60 := tk_le (txt j) r
              refine lv_iload_n hx hb dX3_wordShare_32 rfl (lv_at hl 3 rfl) ?_
              refine lv_aload_n hx hb dX3_wordShare_33 rfl (lv_at hl 4 rfl) ?_
              refine x_get (ci := 3) hx hb hts hown hK rfl hw1 5 (by decide) hw2 hO rfl dX3_wordShare_34 ?_
              refine lv_iconst (v := nI 0) hx hb dX3_wordShare_37 (by decide) ?_
              refine x_aald (k := 3) (v := (y + 14 + 0)) hx hb hK (by decide) rfl m13 (by omega) (by decide) (by rw [rwk_at (by omega), Nat.one_mul]) dX3_wordShare_38 ?_
              refine lv_iload hx hb dX3_wordShare_39 (lv_at hl 0 rfl) ?_
              refine x_iald hx hb hK mm_s0 (by omega) (by decide) dX3_wordShare_41 ?_
              refine x_rw (z := (nI ((tk (txt j) r).length))) (hfm_s0 _ (by omega)) ?_
              refine lv_iadd hx hb dX3_wordShare_42 ?_
              refine x_rw (z := nI (a_ + ((tk (txt j) r).length))) (nI_add _ _) ?_
              refine lv_istore_n (lv' := [(1, .int (nI (a_ + ((tk (txt j) r).length)))), (4, .int (nI r)), (3, .int (nI j)), (2, .int (nI b1)), (0, .ref y)]) hx hb dX3_wordShare_43 rfl hl (by decide) rfl (fun ls hl => ?_)
              refine lv_iconst (v := nI 0) hx hb dX3_wordShare_44 (by decide) ?_
              refine lv_istore (lv' := [(5, .int (nI 0)), (1, .int (nI (a_ + ((tk (txt j) r).length)))), (4, .int (nI r)), (3, .int (nI j)), (2, .int (nI b1)), (0, .ref y)]) hx hb dX3_wordShare_45 hl (by decide) rfl (fun ls hl => ?_)
              have loop47 : ∀ (fu : Nat) (b2 i : Nat) (hb2 : b2 = shW txt j + (wct (txt j) (tk (txt j)) r + wcr (txt j) ((tk (txt j)) r) i)) (hi : i ≤ ((tk (txt j)) r).length) (locs : List Loc) (hS : va_S (gA y (y + 34) H0.size) H0 H2 locs) (ls : Array Slot), ((tk (txt j)) r).length - i < fu → lv_has ls 6 [(5, .int (nI i)), (4, .int (nI r)), (3, .int (nI j)), (2, .int (nI b2)), (1, .int (nI (a_ + ((tk (txt j) r).length)))), (0, .ref y)] → W p l e RMX3_wordShare s m args below meth c H2 locs (0 + 0) (0 + 0) (XQ below args s H0 y (y + 34) 0 0 (qF (fun r H1 => r = shr txt ∧ MW G y L txt 0 H1)) xN) (F0 m 47 ls []) := by
                intro fu47
                induction fu47 with
                | zero => intro b2 i hb2 hi locs hS  ls hmu; exact absurd hmu (Nat.not_lt_zero _)
                | succ fu47 ih47 =>
                  intro b2 i hb2 hi locs hS  ls hmu47 hl
                  refine lv_iload hx hb dX3_wordShare_47 (lv_at hl 0 rfl) ?_
                  refine lv_aload_n hx hb dX3_wordShare_49 rfl (lv_at hl 5 rfl) ?_
                  refine x_get (ci := 3) hx hb hts hown hK rfl hw1 5 (by decide) hw2 hO rfl dX3_wordShare_50 ?_
                  refine lv_iconst (v := nI 0) hx hb dX3_wordShare_53 (by decide) ?_
                  refine x_aald (k := 3) (v := (y + 14 + 0)) hx hb hK (by decide) rfl m13 (by omega) (by decide) (by rw [rwk_at (by omega), Nat.one_mul]) dX3_wordShare_54 ?_
                  refine lv_iload hx hb dX3_wordShare_55 (lv_at hl 1 rfl) ?_
                  refine x_iald hx hb hK mm_s0 (by omega) (by decide) dX3_wordShare_57 ?_
                  refine x_rw (z := (nI ((tk (txt j) r).length))) (hfm_s0 _ (by omega)) ?_
                  refine x_icmp_ge (tgt := 87) hx hb (by omega) (by omega) dX3_wordShare_58 (by decide) (fun c58 => ?_) (fun c58 => ?_)
                  · refine lv_iinc (v := nI (r + 1)) (lv' := [(4, .int (nI (r + 1))), (5, .int (nI i)), (3, .int (nI j)), (2, .int (nI b2)), (1, .int (nI (a_ + ((tk (txt j) r).length)))), (0, .ref y)]) hx hb dX3_wordShare_87 hl (k := 1) rfl (nI_1 _) (by decide) rfl (fun ls hl => ?_)
                    refine lv_goto (tgt := 26) hx hb dX3_wordShare_90 (by decide) ?_
                    exact ih26 (a_ + ((tk (txt j) r).length)) b2 (r + 1) (by rw [ha_]; show _ = _ + (_ + _); omega) (by rw [hb2, show i = ((tk (txt j)) r).length by omega]; rfl) (by omega) _ hS ls (by omega) (lv_sub hl [0, 2, 3, 4, 5] rfl)
                  · refine lv_iload_n hx hb dX3_wordShare_61 rfl (lv_at hl 3 rfl) ?_
                    refine lv_aload_n hx hb dX3_wordShare_62 rfl (lv_at hl 5 rfl) ?_
                    refine lv_iconst (v := nI 0) hx hb dX3_wordShare_63 (by decide) ?_
                    refine lv_iload hx hb dX3_wordShare_64 (lv_at hl 1 rfl) ?_
                    refine lv_iload hx hb dX3_wordShare_66 (lv_at hl 0 rfl) ?_
                    refine x_goI_ro (x_runV (As := [.int (nI 0), .int (nI r), .int (nI i)]) (rest := [.int (nI b2)]) ⟨hx, hb, hml, hown, hts⟩ hE h0 hS (c_X3_isNumber l G y (nI L.length) 0 (wset w1 0 (tad j, tk (txt j))) 0 (by decide) (tad j) (txt j) wset_self hgj.J r i (by omega) (by omega) H2 hO hLA (hMT.tx (by omega))) (cwV 3 hts gX3_wordShare_X3_isNumber rfl rfl rfl (by decide +kernel) ⟨Nat.le_of_ble_eq_true rfl, Nat.le_of_ble_eq_true rfl⟩) (gO.recv (C := RX3) hK hO rfl) (by omega) rfl rfl hl.1 rfl (lv_room (Nat.le_of_ble_eq_true rfl)) dX3_wordShare_68 ⟨by first | exact Nat.le_of_ble_eq_true rfl | omega, by first | exact Nat.le_of_ble_eq_true rfl | omega⟩) hS (by omega) (fun _ _ _ _ _ h => h.elim) (fun locs hq hS => ?_)
                    refine x_if_eqB (tgt := 78) hx hb dX3_wordShare_71 (by decide) (fun c71 => ?_) (fun c71 => ?_)
                    · have hb3 : b2 + 1 = shW txt j + (wct (txt j) (tk (txt j)) r + wcr (txt j) ((tk (txt j)) r) (i + 1)) := by
                        rw [hb2]
                        show _ = shW txt j + (wct (txt j) (tk (txt j)) r + (wcr (txt j) ((tk (txt j)) r) i + _))
                        rw [if_neg (of_decide_eq_false ((nB_in (by omega)).symm.trans c71))]
                        omega
                      refine lv_iconst (v := nI 1) hx hb dX3_wordShare_78 (by decide) ?_
                      refine lv_iadd hx hb dX3_wordShare_79 ?_
                      refine x_rw (z := nI (b2 + 1)) (nI_add _ _) ?_
                      refine lv_istore_n (lv' := [(2, .int (nI (b2 + 1))), (5, .int (nI i)), (4, .int (nI r)), (3, .int (nI j)), (1, .int (nI (a_ + ((tk (txt j) r).length)))), (0, .ref y)]) hx hb dX3_wordShare_80 rfl hl (by decide) rfl (fun ls hl => ?_)
                      refine lv_iinc (v := nI (i + 1)) (lv' := [(5, .int (nI (i + 1))), (2, .int (nI (b2 + 1))), (4, .int (nI r)), (3, .int (nI j)), (1, .int (nI (a_ + ((tk (txt j) r).length)))), (0, .ref y)]) hx hb dX3_wordShare_81 hl (k := 1) rfl (nI_1 _) (by decide) rfl (fun ls hl => ?_)
                      refine lv_goto (tgt := 47) hx hb dX3_wordShare_84 (by decide) ?_
                      exact ih47 (b2 + 1) (i + 1) hb3 (by omega) _ hS ls (by omega) (lv_sub hl [0, 2, 3, 1, 4, 5] rfl)
                    · have hb3 : b2 + 0 = shW txt j + (wct (txt j) (tk (txt j)) r + wcr (txt j) ((tk (txt j)) r) (i + 1)) := by
                        rw [hb2]
                        show _ = shW txt j + (wct (txt j) (tk (txt j)) r + (wcr (txt j) ((tk (txt j)) r) i + _))
                        rw [if_pos (of_decide_eq_true ((nB_in (by omega)).symm.trans c71))]
                        omega
                      refine lv_iconst (v := nI 0) hx hb dX3_wordShare_74 (by decide) ?_
                      refine lv_goto (tgt := 79) hx hb dX3_wordShare_75 (by decide) ?_
                      refine lv_iadd hx hb dX3_wordShare_79 ?_
                      refine x_rw (z := nI (b2 + 0)) (nI_add _ _) ?_
                      refine lv_istore_n (lv' := [(2, .int (nI (b2 + 0))), (5, .int (nI i)), (4, .int (nI r)), (3, .int (nI j)), (1, .int (nI (a_ + ((tk (txt j) r).length)))), (0, .ref y)]) hx hb dX3_wordShare_80 rfl hl (by decide) rfl (fun ls hl => ?_)
                      refine lv_iinc (v := nI (i + 1)) (lv' := [(5, .int (nI (i + 1))), (2, .int (nI (b2 + 0))), (4, .int (nI r)), (3, .int (nI j)), (1, .int (nI (a_ + ((tk (txt j) r).length)))), (0, .ref y)]) hx hb dX3_wordShare_81 hl (k := 1) rfl (nI_1 _) (by decide) rfl (fun ls hl => ?_)
                      refine lv_goto (tgt := 47) hx hb dX3_wordShare_84 (by decide) ?_
                      exact ih47 (b2 + 0) (i + 1) hb3 (by omega) _ hS ls (by omega) (lv_sub hl [0, 2, 3, 1, 4, 5] rfl)
              exact loop47 _ b1 0 (by rw [hbw]; rfl) (by omega) _ hS ls (Nat.lt_succ_self _) (lv_sub hl [0, 2, 3, 4, 1, 5] rfl)
        exact loop26 _ p_ q_ 0 (by rw [hp_]; rfl) (by rw [hq_]; rfl) (by omega) _ hS ls (Nat.lt_succ_self _) (lv_sub hl [0, 1, 2, 3, 4] rfl)
  exact loop11 _ 0 0 0 rfl rfl (by omega) H1 _ hS hO hLE hMT ls (Nat.lt_succ_self _) (lv_sub hl [0, 1, 2, 3] rfl)
