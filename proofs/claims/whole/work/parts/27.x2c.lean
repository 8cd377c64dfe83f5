abbrev RMX2_begin : Room := { frames := 7, cells := 2, slots := 12, locals := 122 }
set_option maxHeartbeats 4000000 in
set_option maxRecDepth 100000 in
theorem c_X2_begin (l : Launch) (G : gG) (b : Nat) (L : List Nat) (txt : Nat → List Nat) (n z : Int32) (H0 : Heap) (hXW : XW G b L txt H0) : XM l yX2_begin wsX2_begin RMX2_begin G [.ref b, .int n, .int z] H0 b (b + 115) 2 12 (qI (fun r H1 => (okN 1000000 n ∧ okN 4 z) ∧ r = nI (num (ix n) (ix z)).length ∧ XW G b (num (ix n) (ix z)) txt H1)) (fun E H1 => E = xIA ∧ ¬ (okN 1000000 n ∧ okN 4 z) ∧ XW G b L txt H1) := by
  refine x_ofW (cc := cX2_begin) (maxL := 3) (ret := (some .int)) (by decide) rfl (Nat.le_of_ble_eq_true rfl) ?_
  intro p e s m below meth c hx hb hr hml hown hts hlocks hout hin2 h0 hE ls hl
  replace hown : s.vm.findClass RX2 = some m.cls := hown
  have hK := hE.1
  have hS : va_S (gA b (b + 115) H0.size) H0 H0 [] := va_S.rf
  generalize hargs : ([.ref b, .int n, .int z] : List Value).toArray = args at hts ⊢
  have hw0 := hts (.constant RX2 37 (999999)) (by decide +kernel)
  have hw1 := hts (.fieldLink RX2 10 "Releaseledger" "draft" "LReleaseledger$Text;") (by decide +kernel)
  have hw2 : ∀ w ∈ u_ws RX2 TX2 6, w ∈ wsX2_begin := by decide +kernel
  have hl : lv_has ls 3 [(0, .ref b), (1, .int n), (2, .int z)] := hl
  obtain ⟨sl, sp, P0, hB, hVo⟩ := hXW
  have hrg := hB.rng
  have hO := hB.O
  have hT := hB.T
  obtain ⟨f3, hSl, hsl⟩ := hB.2.2.1
  have hTn := hT.le
  have hOs := hVo.1.1
  have hVt := hVo.2.1
  refine lv_iload_n hx hb dX2_begin_0 rfl (lv_at hl 1 rfl) ?_
  refine lv_iconst (v := nI 0) hx hb dX2_begin_1 (by decide) ?_
  refine lv_ldc hx hb hown hw0 dX2_begin_2 ?_
  refine x_rw (z := nI 999999) (by decide) ?_
  refine x_goV_ro (x_runS (As := [.int n, .int (nI 0), .int (nI 999999)]) (rest := []) ⟨hx, hb, hml, hown, hts⟩ hE h0 hS (c_X2_checkNumber l G n (nI 0) (nI 999999) H0) (va_cwS 3 hts gX2_begin_X2_checkNumber rfl rfl rfl (by decide +kernel) ⟨Nat.le_of_ble_eq_true rfl, Nat.le_of_ble_eq_true rfl⟩) (by omega) rfl rfl hl.1 rfl (lv_room (Nat.le_of_ble_eq_true rfl)) dX2_begin_4 ⟨by first | exact Nat.le_of_ble_eq_true rfl | omega, by first | exact Nat.le_of_ble_eq_true rfl | omega⟩) hS (by omega) (fun E ce q9 H1 locs1 hXx hFx hSx hce hcv hcl => x_thru hout hlocks h0 hSx hce hcv hcl (⟨hXx.1, fun h => hXx.2 ((okNum (n := 999999) (by decide)).mpr h.1), (XW.mk' hB hVo).fr hFx (by omega)⟩) (by omega) (by omega)) (fun locs hq hS => ?_)
  obtain ⟨n1, hn1, rfl⟩ := (okNum (n := 999999) (by decide)).mp hq
  refine lv_iload_n hx hb dX2_begin_7 rfl (lv_at hl 2 rfl) ?_
  refine x_goV_ro (x_runS (As := [.int z]) (rest := []) ⟨hx, hb, hml, hown, hts⟩ hE h0 hS (c_X2_checkZeros l G z H0) (va_cwS 1 hts gX2_begin_X2_checkZeros rfl rfl rfl (by decide +kernel) ⟨Nat.le_of_ble_eq_true rfl, Nat.le_of_ble_eq_true rfl⟩) (by omega) rfl rfl hl.1 rfl (lv_room (Nat.le_of_ble_eq_true rfl)) dX2_begin_8 ⟨by first | exact Nat.le_of_ble_eq_true rfl | omega, by first | exact Nat.le_of_ble_eq_true rfl | omega⟩) hS (by omega) (fun E ce q9 H1 locs1 hXx hFx hSx hce hcv hcl => x_thru hout hlocks h0 hSx hce hcv hcl (⟨hXx.1, fun h => hXx.2 h.2, (XW.mk' hB hVo).fr hFx (by omega)⟩) (by omega) (by omega)) (fun locs hq hS => ?_)
  obtain ⟨z1, hz1, rfl⟩ := hq
  refine lv_aload_n hx hb dX2_begin_11 rfl (lv_at hl 0 rfl) ?_
  refine x_get (ci := 2) hx hb hts hown hK rfl hw2 0 (by decide) hw1 hO rfl dX2_begin_12 ?_
  refine x_goV (x_runV (As := []) (rest := []) ⟨hx, hb, hml, hown, hts⟩ hE h0 hS (c_X0_clear l G (b + 1) L H0 hT) (cwV 0 hts gX2_begin_X0_clear rfl rfl rfl (by decide +kernel) ⟨Nat.le_of_ble_eq_true rfl, Nat.le_of_ble_eq_true rfl⟩) (hT.recv hK) (by omega) rfl rfl hl.1 rfl (lv_room (Nat.le_of_ble_eq_true rfl)) dX2_begin_15 ⟨by first | exact Nat.le_of_ble_eq_true rfl | omega, by first | exact Nat.le_of_ble_eq_true rfl | omega⟩) hS (by omega) (fun _ _ _ _ _ h => h.elim) (fun  H3 locs hq hF hS => ?_)
  have hO := hO.fr hF (by omega)
  have hVo := hVo.fr hF (by omega)
  have hB := hB.setD hF hq (Or.inl rfl)
  have hT := hq
  have hd9 := dgs_lo (n := n1) (by omega)
  refine lv_aload_n hx hb dX2_begin_18 rfl (lv_at hl 0 rfl) ?_
  refine x_get (ci := 2) hx hb hts hown hK rfl hw2 0 (by decide) hw1 hO rfl dX2_begin_19 ?_
  refine lv_iload_n hx hb dX2_begin_22 rfl (lv_at hl 1 rfl) ?_
  refine lv_iload_n hx hb dX2_begin_23 rfl (lv_at hl 2 rfl) ?_
  refine x_goV (x_runV (As := [.int (nI n1), .int (nI z1)]) (rest := []) ⟨hx, hb, hml, hown, hts⟩ hE h0 hS (c_X0_putNumber l G (b + 1) [] n1 z1 (by omega) (by omega) (by simp; omega) H3 hT) (cwV 2 hts gX2_begin_X0_putNumber rfl rfl rfl (by decide +kernel) ⟨Nat.le_of_ble_eq_true rfl, Nat.le_of_ble_eq_true rfl⟩) (hT.recv hK) (by omega) rfl rfl hl.1 rfl (lv_room (Nat.le_of_ble_eq_true rfl)) dX2_begin_24 ⟨by first | exact Nat.le_of_ble_eq_true rfl | omega, by first | exact Nat.le_of_ble_eq_true rfl | omega⟩) hS (by omega) (fun _ _ _ _ _ h => h.elim) (fun  H4 locs hq hF hS => ?_)
  have hO := hO.fr hF (by omega)
  have hVo := hVo.fr hF (by omega)
  replace hq : Tx G (b + 1) (num n1 z1) H4 := by unfold num; rw [List.nil_append] at hq; exact hq
  have hB := hB.setD hF hq (Or.inr (Gt_begin (by omega) (by omega)))
  have hT := hq
  refine lv_aload_n hx hb dX2_begin_27 rfl (lv_at hl 0 rfl) ?_
  refine x_get (ci := 2) hx hb hts hown hK rfl hw2 0 (by decide) hw1 hO rfl dX2_begin_28 ?_
  refine x_goI_ro (x_runV (As := []) (rest := []) ⟨hx, hb, hml, hown, hts⟩ hE h0 hS (c_X0_length l G (b + 1) (num n1 z1) H4 hT) (cwV 0 hts gX2_begin_X0_length rfl rfl rfl (by decide +kernel) ⟨Nat.le_of_ble_eq_true rfl, Nat.le_of_ble_eq_true rfl⟩) (hT.recv hK) (by omega) rfl rfl hl.1 rfl (lv_room (Nat.le_of_ble_eq_true rfl)) dX2_begin_31 ⟨by first | exact Nat.le_of_ble_eq_true rfl | omega, by first | exact Nat.le_of_ble_eq_true rfl | omega⟩) hS (by omega) (fun _ _ _ _ _ h => h.elim) (fun locs hq hS => ?_)
  exact x_iret hx hb hr hlocks h0 hS (by omega) (by omega) dX2_begin_34 (⟨⟨⟨n1, hn1, rfl⟩, z1, hz1, rfl⟩, by rw [ix_N (by omega), ix_N (by omega)], by rw [ix_N (by omega), ix_N (by omega)]; exact XW.mk' hB hVo⟩)

abbrev RMX2_add : Room := { frames := 8, cells := 4, slots := 24, locals := 144 }
set_option maxHeartbeats 4000000 in
set_option maxRecDepth 100000 in
theorem c_X2_add (l : Launch) (G : gG) (b : Nat) (L : List Nat) (txt : Nat → List Nat) (n z : Int32) (h : Nat) (hh : h < 65536) (H0 : Heap) (hXW : XW G b L txt H0) : XM l yX2_add wsX2_add RMX2_add G [.ref b, .int n, .int z, .int (nI h)] H0 b (b + 115) 4 24 (qI (fun r H1 => ((okN 1000000000 n ∧ okN 4 z ∧ isWay h) ∧ Jn L h 1 (ix z + dgs (ix n))) ∧ r = nI (jn L h ++ num (ix n) (ix z)).length ∧ XW G b (jn L h ++ num (ix n) (ix z)) txt H1)) (fun E H1 => ((E = xIA ∧ ¬ (okN 1000000000 n ∧ okN 4 z ∧ isWay h)) ∨ (E = xIS ∧ (okN 1000000000 n ∧ okN 4 z ∧ isWay h) ∧ ¬ Jn L h 1 (ix z + dgs (ix n)))) ∧ XW G b L txt H1) := by
  refine x_ofW (cc := cX2_add) (maxL := 4) (ret := (some .int)) (by decide) rfl (Nat.le_of_ble_eq_true rfl) ?_
  intro p e s m below meth c hx hb hr hml hown hts hlocks hout hin2 h0 hE ls hl
  replace hown : s.vm.findClass RX2 = some m.cls := hown
  have hK := hE.1
  have hS : va_S (gA b (b + 115) H0.size) H0 H0 [] := va_S.rf
  generalize hargs : ([.ref b, .int n, .int z, .int (nI h)] : List Value).toArray = args at hts ⊢
  have hw0 := hts (.constant RX2 57 (999999999)) (by decide +kernel)
  have hw1 := hts (.fieldLink RX2 10 "Releaseledger" "draft" "LReleaseledger$Text;") (by decide +kernel)
  have hw2 : ∀ w ∈ u_ws RX2 TX2 6, w ∈ wsX2_add := by decide +kernel
  have hl : lv_has ls 4 [(0, .ref b), (1, .int n), (2, .int z), (3, .int (nI h))] := hl
  obtain ⟨sl, sp, P0, hB, hVo⟩ := hXW
  have hrg := hB.rng
  have hO := hB.O
  have hT := hB.T
  obtain ⟨f3, hSl, hsl⟩ := hB.2.2.1
  have hTn := hT.le
  have hOs := hVo.1.1
  have hVt := hVo.2.1
  refine lv_iload_n hx hb dX2_add_0 rfl (lv_at hl 1 rfl) ?_
  refine lv_iconst (v := nI 0) hx hb dX2_add_1 (by decide) ?_
  refine lv_ldc hx hb hown hw0 dX2_add_2 ?_
  refine x_rw (z := nI 999999999) (by decide) ?_
  refine x_goV_ro (x_runS (As := [.int n, .int (nI 0), .int (nI 999999999)]) (rest := []) ⟨hx, hb, hml, hown, hts⟩ hE h0 hS (c_X2_checkNumber l G n (nI 0) (nI 999999999) H0) (va_cwS 3 hts gX2_add_X2_checkNumber rfl rfl rfl (by decide +kernel) ⟨Nat.le_of_ble_eq_true rfl, Nat.le_of_ble_eq_true rfl⟩) (by omega) rfl rfl hl.1 rfl (lv_room (Nat.le_of_ble_eq_true rfl)) dX2_add_4 ⟨by first | exact Nat.le_of_ble_eq_true rfl | omega, by first | exact Nat.le_of_ble_eq_true rfl | omega⟩) hS (by omega) (fun E ce q9 H1 locs1 hXx hFx hSx hce hcv hcl => x_thru hout hlocks h0 hSx hce hcv hcl (⟨Or.inl ⟨hXx.1, fun h => hXx.2 ((okNum (n := 999999999) (by decide)).mpr h.1)⟩, (XW.mk' hB hVo).fr hFx (by omega)⟩) (by omega) (by omega)) (fun locs hq hS => ?_)
  obtain ⟨n1, hn1, rfl⟩ := (okNum (n := 999999999) (by decide)).mp hq
  refine lv_iload_n hx hb dX2_add_7 rfl (lv_at hl 2 rfl) ?_
  refine x_goV_ro (x_runS (As := [.int z]) (rest := []) ⟨hx, hb, hml, hown, hts⟩ hE h0 hS (c_X2_checkZeros l G z H0) (va_cwS 1 hts gX2_add_X2_checkZeros rfl rfl rfl (by decide +kernel) ⟨Nat.le_of_ble_eq_true rfl, Nat.le_of_ble_eq_true rfl⟩) (by omega) rfl rfl hl.1 rfl (lv_room (Nat.le_of_ble_eq_true rfl)) dX2_add_8 ⟨by first | exact Nat.le_of_ble_eq_true rfl | omega, by first | exact Nat.le_of_ble_eq_true rfl | omega⟩) hS (by omega) (fun E ce q9 H1 locs1 hXx hFx hSx hce hcv hcl => x_thru hout hlocks h0 hSx hce hcv hcl (⟨Or.inl ⟨hXx.1, fun h => hXx.2 h.2.1⟩, (XW.mk' hB hVo).fr hFx (by omega)⟩) (by omega) (by omega)) (fun locs hq hS => ?_)
  obtain ⟨z1, hz1, rfl⟩ := hq
  refine lv_iload_n hx hb dX2_add_11 rfl (lv_at hl 3 rfl) ?_
  refine x_goV_ro (x_runS (As := [.int (nI h)]) (rest := []) ⟨hx, hb, hml, hown, hts⟩ hE h0 hS (c_X2_checkWay l G h (by omega) H0) (va_cwS 1 hts gX2_add_X2_checkWay rfl rfl rfl (by decide +kernel) ⟨Nat.le_of_ble_eq_true rfl, Nat.le_of_ble_eq_true rfl⟩) (by omega) rfl rfl hl.1 rfl (lv_room (Nat.le_of_ble_eq_true rfl)) dX2_add_12 ⟨by first | exact Nat.le_of_ble_eq_true rfl | omega, by first | exact Nat.le_of_ble_eq_true rfl | omega⟩) hS (by omega) (fun E ce q9 H1 locs1 hXx hFx hSx hce hcv hcl => x_thru hout hlocks h0 hSx hce hcv hcl (⟨Or.inl ⟨hXx.1, fun h => hXx.2 h.2.2⟩, (XW.mk' hB hVo).fr hFx (by omega)⟩) (by omega) (by omega)) (fun locs hq hS => ?_)
  have hway := hq
  refine lv_aload_n hx hb dX2_add_15 rfl (lv_at hl 0 rfl) ?_
  refine lv_iload_n hx hb dX2_add_16 rfl (lv_at hl 3 rfl) ?_
  refine lv_iconst (v := nI 1) hx hb dX2_add_17 (by decide) ?_
  refine lv_iload_n hx hb dX2_add_18 rfl (lv_at hl 2 rfl) ?_
  refine lv_iload_n hx hb dX2_add_19 rfl (lv_at hl 1 rfl) ?_
  refine x_goI_ro (x_runS (As := [.int (nI n1)]) (rest := [.int (nI z1), .int (nI 1), .int (nI h), .ref b]) ⟨hx, hb, hml, hown, hts⟩ hE h0 hS (c_X2_digitsOf l G n1 (by omega) H0) (va_cwS 1 hts gX2_add_X2_digitsOf rfl rfl rfl (by decide +kernel) ⟨Nat.le_of_ble_eq_true rfl, Nat.le_of_ble_eq_true rfl⟩) (by omega) rfl rfl hl.1 rfl (lv_room (Nat.le_of_ble_eq_true rfl)) dX2_add_20 ⟨by first | exact Nat.le_of_ble_eq_true rfl | omega, by first | exact Nat.le_of_ble_eq_true rfl | omega⟩) hS (by omega) (fun _ _ _ _ _ h => h.elim) (fun locs hq hS => ?_)
  have hd9 := dgs_lo (n := n1) (by omega)
  have hd0 := dgs_pos n1
  refine lv_iadd hx hb dX2_add_23 ?_
  refine x_rw (z := nI (z1 + (dgs n1))) (nI_add _ _) ?_
  refine x_goV_ro (x_runV (As := [.int (nI h), .int (nI 1), .int (nI (z1 + (dgs n1)))]) (rest := []) ⟨hx, hb, hml, hown, hts⟩ hE h0 hS (c_X2_checkJoin l G b L txt sl sp h 1 (z1 + dgs n1) (by omega) (by decide) (by omega) H0 hB) (cwV 3 hts gX2_add_X2_checkJoin rfl rfl rfl (by decide +kernel) ⟨Nat.le_of_ble_eq_true rfl, Nat.le_of_ble_eq_true rfl⟩) (hB.recv hK) (by omega) rfl rfl hl.1 rfl (lv_room (Nat.le_of_ble_eq_true rfl)) dX2_add_24 ⟨by first | exact Nat.le_of_ble_eq_true rfl | omega, by first | exact Nat.le_of_ble_eq_true rfl | omega⟩) hS (by omega) (fun E ce q9 H1 locs1 hXx hFx hSx hce hcv hcl => x_thru hout hlocks h0 hSx hce hcv hcl (⟨Or.inr ⟨hXx.1, ⟨⟨n1, hn1, rfl⟩, ⟨z1, hz1, rfl⟩, hway⟩, by rw [ix_N (by omega), ix_N (by omega)]; exact hXx.2⟩, (XW.mk' hB hVo).fr hFx (by omega)⟩) (by omega) (by omega)) (fun locs hq hS => ?_)
  have hjn := hq
  have hpos := hjn.1
  have hroom := hjn.2.2.2
  have hgL := hB.d.resolve_left (fun g => by rw [g] at hpos; exact absurd hpos (by decide))
  refine lv_aload_n hx hb dX2_add_27 rfl (lv_at hl 0 rfl) ?_
  refine lv_iload_n hx hb dX2_add_28 rfl (lv_at hl 3 rfl) ?_
  refine x_goV (x_runV (As := [.int (nI h)]) (rest := []) ⟨hx, hb, hml, hown, hts⟩ hE h0 hS (c_X2_putJoint l G b L txt sl sp h (by omega) (by first | (rw [if_pos (by assumption)] at hroom; omega) | (split at hroom <;> omega)) H0 hB) (cwV 1 hts gX2_add_X2_putJoint rfl rfl rfl (by decide +kernel) ⟨Nat.le_of_ble_eq_true rfl, Nat.le_of_ble_eq_true rfl⟩) (hB.recv hK) (by omega) rfl rfl hl.1 rfl (lv_room (Nat.le_of_ble_eq_true rfl)) dX2_add_29 ⟨by first | exact Nat.le_of_ble_eq_true rfl | omega, by first | exact Nat.le_of_ble_eq_true rfl | omega⟩) hS (by omega) (fun _ _ _ _ _ h => h.elim) (fun  H6 locs hq hF hS => ?_)
  have hO := hO.fr hF (by omega)
  have hVo := hVo.fr hF (by omega)
  have hT := hq
  have hFj := hF
  have hBo := hB
  refine lv_aload_n hx hb dX2_add_32 rfl (lv_at hl 0 rfl) ?_
  refine x_get (ci := 2) hx hb hts hown hK rfl hw2 0 (by decide) hw1 hO rfl dX2_add_33 ?_
  refine lv_iload_n hx hb dX2_add_36 rfl (lv_at hl 1 rfl) ?_
  refine lv_iload_n hx hb dX2_add_37 rfl (lv_at hl 2 rfl) ?_
  refine x_goV (x_runV (As := [.int (nI n1), .int (nI z1)]) (rest := []) ⟨hx, hb, hml, hown, hts⟩ hE h0 hS (c_X0_putNumber l G (b + 1) (jn L h) n1 z1 (by omega) (by omega) (by have := jn_len (L := L) (how := h) (n := z1 + dgs n1); omega) H6 hT) (cwV 2 hts gX2_add_X0_putNumber rfl rfl rfl (by decide +kernel) ⟨Nat.le_of_ble_eq_true rfl, Nat.le_of_ble_eq_true rfl⟩) (hT.recv hK) (by omega) rfl rfl hl.1 rfl (lv_room (Nat.le_of_ble_eq_true rfl)) dX2_add_38 ⟨by first | exact Nat.le_of_ble_eq_true rfl | omega, by first | exact Nat.le_of_ble_eq_true rfl | omega⟩) hS (by omega) (fun _ _ _ _ _ h => h.elim) (fun  H7 locs hq hF hS => ?_)
  have hO := hO.fr hF (by omega)
  have hVo := hVo.fr hF (by omega)
  replace hq : Tx G (b + 1) (jn L h ++ num n1 z1) H7 := by unfold num; rw [← List.append_assoc]; exact hq
  have hB := hBo.setD (gF.trans hFj hF (by omega)) hq (Or.inr (Gt_num hgL hway hjn.2.1 (by omega) (by omega) (by rw [List.length_append, num_len, jn_len]; exact hroom)))
  have hT := hq
  refine lv_aload_n hx hb dX2_add_41 rfl (lv_at hl 0 rfl) ?_
  refine x_get (ci := 2) hx hb hts hown hK rfl hw2 0 (by decide) hw1 hO rfl dX2_add_42 ?_
  refine x_goI_ro (x_runV (As := []) (rest := []) ⟨hx, hb, hml, hown, hts⟩ hE h0 hS (c_X0_length l G (b + 1) (jn L h ++ num n1 z1) H7 hT) (cwV 0 hts gX2_add_X0_length rfl rfl rfl (by decide +kernel) ⟨Nat.le_of_ble_eq_true rfl, Nat.le_of_ble_eq_true rfl⟩) (hT.recv hK) (by omega) rfl rfl hl.1 rfl (lv_room (Nat.le_of_ble_eq_true rfl)) dX2_add_45 ⟨by first | exact Nat.le_of_ble_eq_true rfl | omega, by first | exact Nat.le_of_ble_eq_true rfl | omega⟩) hS (by omega) (fun _ _ _ _ _ h => h.elim) (fun locs hq hS => ?_)
  exact x_iret hx hb hr hlocks h0 hS (by omega) (by omega) dX2_add_48 (⟨⟨⟨⟨n1, hn1, rfl⟩, ⟨z1, hz1, rfl⟩, hway⟩, by rw [ix_N (by omega), ix_N (by omega)]; exact hjn⟩, by rw [ix_N (by omega), ix_N (by omega)], by rw [ix_N (by omega), ix_N (by omega)]; exact XW.mk' hB hVo⟩)

abbrev RMX2_word : Room := { frames := 8, cells := 3, slots := 18, locals := 144 }
set_option maxHeartbeats 4000000 in
set_option maxRecDepth 100000 in
theorem c_X2_word (l : Launch) (G : gG) (b : Nat) (L : List Nat) (txt : Nat → List Nat) (code k : Int32) (h : Nat) (hh : h < 65536) (H0 : Heap) (hXW : XW G b L txt H0) : XM l yX2_word wsX2_word RMX2_word G [.ref b, .int code, .int k, .int (nI h)] H0 b (b + 115) 3 18 (qI (fun r H1 => ((okP 5 k ∧ isWay h) ∧ Jn L h 2 (ix k)) ∧ r = nI (jn L h ++ wd (cd code) (ix k)).length ∧ XW G b (jn L h ++ wd (cd code) (ix k)) txt H1)) (fun E H1 => ((E = xIA ∧ ¬ (okP 5 k ∧ isWay h)) ∨ (E = xIS ∧ (okP 5 k ∧ isWay h) ∧ ¬ Jn L h 2 (ix k))) ∧ XW G b L txt H1) := by
  refine x_ofW (cc := cX2_word) (maxL := 4) (ret := (some .int)) (by decide) rfl (Nat.le_of_ble_eq_true rfl) ?_
  intro p e s m below meth c hx hb hr hml hown hts hlocks hout hin2 h0 hE ls hl
  replace hown : s.vm.findClass RX2 = some m.cls := hown
  have hK := hE.1
  have hS : va_S (gA b (b + 115) H0.size) H0 H0 [] := va_S.rf
  generalize hargs : ([.ref b, .int code, .int k, .int (nI h)] : List Value).toArray = args at hts ⊢
  have hw0 := hts (.classLink RX2 73 xIA) (by decide +kernel)
  have hw1 := hts (.initialized xIA) (by decide +kernel)
  have hw2 := hts (.fieldLink RX2 10 "Releaseledger" "draft" "LReleaseledger$Text;") (by decide +kernel)
  have hw3 : ∀ w ∈ u_ws RX2 TX2 6, w ∈ wsX2_word := by decide +kernel
  have hl : lv_has ls 4 [(0, .ref b), (1, .int code), (2, .int k), (3, .int (nI h))] := hl
  obtain ⟨sl, sp, P0, hB, hVo⟩ := hXW
  have hrg := hB.rng
  have hO := hB.O
  have hT := hB.T
  obtain ⟨f3, hSl, hsl⟩ := hB.2.2.1
  have hTn := hT.le
  have hOs := hVo.1.1
  have hVt := hVo.2.1
  refine lv_iload_n hx hb dX2_word_0 rfl (lv_at hl 2 rfl) ?_
  refine lv_iconst (v := nI 1) hx hb dX2_word_1 (by decide) ?_
  refine lv_icmp_lt (tgt := 10) hx hb dX2_word_2 (by decide) (fun c2 => ?_) (fun c2 => ?_)
  · exact x_throw (cls := xIA) (text := "a word has 1 to 5 letters") hx hb hE h0 hS hown hlocks hout (by rw [hml]; exact hl.1) (by decide) hw0 hw1 ot_IA (by decide +kernel) nb_IA (fun w h => by first | exact hts w (List.mem_cons_of_mem _ (List.mem_append_right _ h)) | exact hts w (List.mem_cons_of_mem _ (List.mem_append_left _ (List.mem_append_right _ h))) | exact hts w (List.mem_cons_of_mem _ (List.mem_append_left _ (List.mem_append_left _ (List.mem_append_right _ h))))) dX2_word_10 dX2_word_13 dX2_word_14 dX2_word_16 dX2_word_19 (Nat.le_of_ble_eq_true rfl) (Nat.le_of_ble_eq_true rfl) (Nat.le_of_ble_eq_true rfl) (Nat.le_of_ble_eq_true rfl) (by omega) (by omega) (fun H1 hF => ⟨Or.inl ⟨rfl, fun h => by have h2 := (okP_iff (by decide)).mp h.1; first | exact absurd h2.1 (Int32.not_le.mpr c2) | exact c7 h2.2⟩, (XW.mk' hB hVo).fr hF (by omega)⟩)
  · refine lv_iload_n hx hb dX2_word_5 rfl (lv_at hl 2 rfl) ?_
    refine lv_iconst (v := nI 5) hx hb dX2_word_6 (by decide) ?_
    refine lv_icmp_le (tgt := 20) hx hb dX2_word_7 (by decide) (fun c7 => ?_) (fun c7 => ?_)
    · obtain ⟨k1, hk1, rfl⟩ := okNum1b (n := 5) ⟨Int32.not_lt.mp c2, c7⟩
      refine lv_iload_n hx hb dX2_word_20 rfl (lv_at hl 3 rfl) ?_
      refine x_goV_ro (x_runS (As := [.int (nI h)]) (rest := []) ⟨hx, hb, hml, hown, hts⟩ hE h0 hS (c_X2_checkWay l G h (by omega) H0) (va_cwS 1 hts gX2_word_X2_checkWay rfl rfl rfl (by decide +kernel) ⟨Nat.le_of_ble_eq_true rfl, Nat.le_of_ble_eq_true rfl⟩) (by omega) rfl rfl hl.1 rfl (lv_room (Nat.le_of_ble_eq_true rfl)) dX2_word_21 ⟨by first | exact Nat.le_of_ble_eq_true rfl | omega, by first | exact Nat.le_of_ble_eq_true rfl | omega⟩) hS (by omega) (fun E ce q9 H1 locs1 hXx hFx hSx hce hcv hcl => x_thru hout hlocks h0 hSx hce hcv hcl (⟨Or.inl ⟨hXx.1, fun h => hXx.2 h.2⟩, (XW.mk' hB hVo).fr hFx (by omega)⟩) (by omega) (by omega)) (fun locs hq hS => ?_)
      have hway := hq
      refine lv_aload_n hx hb dX2_word_24 rfl (lv_at hl 0 rfl) ?_
      refine lv_iload_n hx hb dX2_word_25 rfl (lv_at hl 3 rfl) ?_
      refine lv_iconst (v := nI 2) hx hb dX2_word_26 (by decide) ?_
      refine lv_iload_n hx hb dX2_word_27 rfl (lv_at hl 2 rfl) ?_
      refine x_goV_ro (x_runV (As := [.int (nI h), .int (nI 2), .int (nI k1)]) (rest := []) ⟨hx, hb, hml, hown, hts⟩ hE h0 hS (c_X2_checkJoin l G b L txt sl sp h 2 k1 (by omega) (by decide) (by omega) H0 hB) (cwV 3 hts gX2_word_X2_checkJoin rfl rfl rfl (by decide +kernel) ⟨Nat.le_of_ble_eq_true rfl, Nat.le_of_ble_eq_true rfl⟩) (hB.recv hK) (by omega) rfl rfl hl.1 rfl (lv_room (Nat.le_of_ble_eq_true rfl)) dX2_word_28 ⟨by first | exact Nat.le_of_ble_eq_true rfl | omega, by first | exact Nat.le_of_ble_eq_true rfl | omega⟩) hS (by omega) (fun E ce q9 H1 locs1 hXx hFx hSx hce hcv hcl => x_thru hout hlocks h0 hSx hce hcv hcl (⟨Or.inr ⟨hXx.1, ⟨okP_of hk1, hway⟩, by rw [ix_N (by omega)]; exact hXx.2⟩, (XW.mk' hB hVo).fr hFx (by omega)⟩) (by omega) (by omega)) (fun locs hq hS => ?_)
      have hjn := hq
      have hpos := hjn.1
      have hroom := hjn.2.2.2
      have hgL := hB.d.resolve_left (fun g => by rw [g] at hpos; exact absurd hpos (by decide))
      refine lv_aload_n hx hb dX2_word_31 rfl (lv_at hl 0 rfl) ?_
      refine lv_iload_n hx hb dX2_word_32 rfl (lv_at hl 3 rfl) ?_
      refine x_goV (x_runV (As := [.int (nI h)]) (rest := []) ⟨hx, hb, hml, hown, hts⟩ hE h0 hS (c_X2_putJoint l G b L txt sl sp h (by omega) (by first | (rw [if_pos (by assumption)] at hroom; omega) | (split at hroom <;> omega)) H0 hB) (cwV 1 hts gX2_word_X2_putJoint rfl rfl rfl (by decide +kernel) ⟨Nat.le_of_ble_eq_true rfl, Nat.le_of_ble_eq_true rfl⟩) (hB.recv hK) (by omega) rfl rfl hl.1 rfl (lv_room (Nat.le_of_ble_eq_true rfl)) dX2_word_33 ⟨by first | exact Nat.le_of_ble_eq_true rfl | omega, by first | exact Nat.le_of_ble_eq_true rfl | omega⟩) hS (by omega) (fun _ _ _ _ _ h => h.elim) (fun  H3 locs hq hF hS => ?_)
      have hO := hO.fr hF (by omega)
      have hVo := hVo.fr hF (by omega)
      have hT := hq
      have hFj := hF
      have hBo := hB
      refine lv_aload_n hx hb dX2_word_36 rfl (lv_at hl 0 rfl) ?_
      refine x_get (ci := 2) hx hb hts hown hK rfl hw3 0 (by decide) hw2 hO rfl dX2_word_37 ?_
      refine lv_iload_n hx hb dX2_word_40 rfl (lv_at hl 1 rfl) ?_
      refine lv_iload_n hx hb dX2_word_41 rfl (lv_at hl 2 rfl) ?_
      refine x_goV (x_runV (As := [.int code, .int (nI k1)]) (rest := []) ⟨hx, hb, hml, hown, hts⟩ hE h0 hS (c_X0_putWord l G (b + 1) (jn L h) code k1 (by omega) (by have := jn_len (L := L) (how := h) (n := k1); omega) H3 hT) (cwV 2 hts gX2_word_X0_putWord rfl rfl rfl (by decide +kernel) ⟨Nat.le_of_ble_eq_true rfl, Nat.le_of_ble_eq_true rfl⟩) (hT.recv hK) (by omega) rfl rfl hl.1 rfl (lv_room (Nat.le_of_ble_eq_true rfl)) dX2_word_42 ⟨by first | exact Nat.le_of_ble_eq_true rfl | omega, by first | exact Nat.le_of_ble_eq_true rfl | omega⟩) hS (by omega) (fun _ _ _ _ _ h => h.elim) (fun  H4 locs hq hF hS => ?_)
      have hO := hO.fr hF (by omega)
      have hVo := hVo.fr hF (by omega)
      have hB := hBo.setD (gF.trans hFj hF (by omega)) hq (Or.inr (Gt_word hgL hway hjn.2.1 (by omega) (by omega) (by rw [List.length_append, wd_len, jn_len]; exact hroom)))
      have hT := hq
      refine lv_aload_n hx hb dX2_word_45 rfl (lv_at hl 0 rfl) ?_
      refine x_get (ci := 2) hx hb hts hown hK rfl hw3 0 (by decide) hw2 hO rfl dX2_word_46 ?_
      refine x_goI_ro (x_runV (As := []) (rest := []) ⟨hx, hb, hml, hown, hts⟩ hE h0 hS (c_X0_length l G (b + 1) (jn L h ++ wd (cd code) k1) H4 hT) (cwV 0 hts gX2_word_X0_length rfl rfl rfl (by decide +kernel) ⟨Nat.le_of_ble_eq_true rfl, Nat.le_of_ble_eq_true rfl⟩) (hT.recv hK) (by omega) rfl rfl hl.1 rfl (lv_room (Nat.le_of_ble_eq_true rfl)) dX2_word_49 ⟨by first | exact Nat.le_of_ble_eq_true rfl | omega, by first | exact Nat.le_of_ble_eq_true rfl | omega⟩) hS (by omega) (fun _ _ _ _ _ h => h.elim) (fun locs hq hS => ?_)
      exact x_iret hx hb hr hlocks h0 hS (by omega) (by omega) dX2_word_52 (⟨⟨⟨okP_of hk1, hway⟩, by rw [ix_N (by omega)]; exact hjn⟩, by rw [ix_N (by omega)], by rw [ix_N (by omega)]; exact XW.mk' hB hVo⟩)
    · exact x_throw (cls := xIA) (text := "a word has 1 to 5 letters") hx hb hE h0 hS hown hlocks hout (by rw [hml]; exact hl.1) (by decide) hw0 hw1 ot_IA (by decide +kernel) nb_IA (fun w h => by first | exact hts w (List.mem_cons_of_mem _ (List.mem_append_right _ h)) | exact hts w (List.mem_cons_of_mem _ (List.mem_append_left _ (List.mem_append_right _ h))) | exact hts w (List.mem_cons_of_mem _ (List.mem_append_left _ (List.mem_append_left _ (List.mem_append_right _ h))))) dX2_word_10 dX2_word_13 dX2_word_14 dX2_word_16 dX2_word_19 (Nat.le_of_ble_eq_true rfl) (Nat.le_of_ble_eq_true rfl) (Nat.le_of_ble_eq_true rfl) (Nat.le_of_ble_eq_true rfl) (by omega) (by omega) (fun H1 hF => ⟨Or.inl ⟨rfl, fun h => by have h2 := (okP_iff (by decide)).mp h.1; first | exact absurd h2.1 (Int32.not_le.mpr c2) | exact c7 h2.2⟩, (XW.mk' hB hVo).fr hF (by omega)⟩)

abbrev RMX2_drop : Room := { frames := 2, cells := 0, slots := 0, locals := 32 }
set_option maxHeartbeats 4000000 in
set_option maxRecDepth 100000 in
theorem c_X2_drop (l : Launch) (G : gG) (b : Nat) (L : List Nat) (txt : Nat → List Nat) (H0 : Heap) (hXW : XW G b L txt H0) : XM l yX2_drop wsX2_drop RMX2_drop G [.ref b] H0 b (b + 115) 0 0 (qI (fun r H1 => r = nI L.length ∧ XW G b [] txt H1)) xN := by
  refine x_ofW (cc := cX2_drop) (maxL := 2) (ret := (some .int)) (by decide) rfl (Nat.le_of_ble_eq_true rfl) ?_
  intro p e s m below meth c hx hb hr hml hown hts hlocks hout hin2 h0 hE ls hl
  replace hown : s.vm.findClass RX2 = some m.cls := hown
  have hK := hE.1
  have hS : va_S (gA b (b + 115) H0.size) H0 H0 [] := va_S.rf
  generalize hargs : ([.ref b] : List Value).toArray = args at hts ⊢
  have hw0 := hts (.fieldLink RX2 10 "Releaseledger" "draft" "LReleaseledger$Text;") (by decide +kernel)
  have hw1 : ∀ w ∈ u_ws RX2 TX2 6, w ∈ wsX2_drop := by decide +kernel
  have hl : lv_has ls 2 [(0, .ref b)] := hl
  obtain ⟨sl, sp, P0, hB, hVo⟩ := hXW
  have hrg := hB.rng
  have hO := hB.O
  have hT := hB.T
  obtain ⟨f3, hSl, hsl⟩ := hB.2.2.1
  have hTn := hT.le
  have hOs := hVo.1.1
  have hVt := hVo.2.1
  refine lv_aload_n hx hb dX2_drop_0 rfl (lv_at hl 0 rfl) ?_
  refine x_get (ci := 2) hx hb hts hown hK rfl hw1 0 (by decide) hw0 hO rfl dX2_drop_1 ?_
  refine x_goI_ro (x_runV (As := []) (rest := []) ⟨hx, hb, hml, hown, hts⟩ hE h0 hS (c_X0_length l G (b + 1) L H0 hT) (cwV 0 hts gX2_drop_X0_length rfl rfl rfl (by decide +kernel) ⟨Nat.le_of_ble_eq_true rfl, Nat.le_of_ble_eq_true rfl⟩) (hT.recv hK) (by omega) rfl rfl hl.1 rfl (lv_room (Nat.le_of_ble_eq_true rfl)) dX2_drop_4 ⟨by first | exact Nat.le_of_ble_eq_true rfl | omega, by first | exact Nat.le_of_ble_eq_true rfl | omega⟩) hS (by omega) (fun _ _ _ _ _ h => h.elim) (fun locs hq hS => ?_)
  refine lv_istore_n (lv' := [(1, .int (nI L.length)), (0, .ref b)]) hx hb dX2_drop_7 rfl hl (by decide) rfl (fun ls hl => ?_)
  refine lv_aload_n hx hb dX2_drop_8 rfl (lv_at hl 1 rfl) ?_
  refine x_get (ci := 2) hx hb hts hown hK rfl hw1 0 (by decide) hw0 hO rfl dX2_drop_9 ?_
  refine x_goV (x_runV (As := []) (rest := []) ⟨hx, hb, hml, hown, hts⟩ hE h0 hS (c_X0_clear l G (b + 1) L H0 hT) (cwV 0 hts gX2_drop_X0_clear rfl rfl rfl (by decide +kernel) ⟨Nat.le_of_ble_eq_true rfl, Nat.le_of_ble_eq_true rfl⟩) (hT.recv hK) (by omega) rfl rfl hl.1 rfl (lv_room (Nat.le_of_ble_eq_true rfl)) dX2_drop_12 ⟨by first | exact Nat.le_of_ble_eq_true rfl | omega, by first | exact Nat.le_of_ble_eq_true rfl | omega⟩) hS (by omega) (fun _ _ _ _ _ h => h.elim) (fun  H2 locs hq hF hS => ?_)
  have hO := hO.fr hF (by omega)
  have hVo := hVo.fr hF (by omega)
  have hB := hB.setD hF hq (Or.inl rfl)
  refine lv_iload_n hx hb dX2_drop_15 rfl (lv_at hl 0 rfl) ?_
  exact x_iret hx hb hr hlocks h0 hS (by omega) (by omega) dX2_drop_16 (⟨rfl, XW.mk' hB hVo⟩)

abbrev RMX2_sign : Room := { frames := 7, cells := 1, slots := 6, locals := 121 }
set_option maxHeartbeats 4000000 in
set_option maxRecDepth 100000 in
theorem c_X2_sign (l : Launch) (G : gG) (b : Nat) (L : List Nat) (txt : Nat → List Nat) (x : Int32) (H0 : Heap) (hXW : XW G b L txt H0) : XM l yX2_sign wsX2_sign RMX2_sign G [.ref b, .int x] H0 0 0 1 6 (roI H0 (nI (cg L (ix x))) (okN L.length x)) (fun E _ => E = xIO ∧ ¬ okN L.length x) := by
  refine x_ofW (cc := cX2_sign) (maxL := 2) (ret := (some .char)) (by decide) rfl (Nat.le_of_ble_eq_true rfl) ?_
  intro p e s m below meth c hx hb hr hml hown hts hlocks hout hin2 h0 hE ls hl
  replace hown : s.vm.findClass RX2 = some m.cls := hown
  have hK := hE.1
  have hS : va_S (gA 0 0 H0.size) H0 H0 [] := va_S.rf
  generalize hargs : ([.ref b, .int x] : List Value).toArray = args at hts ⊢
  have hw0 := hts (.fieldLink RX2 10 "Releaseledger" "draft" "LReleaseledger$Text;") (by decide +kernel)
  have hw1 : ∀ w ∈ u_ws RX2 TX2 6, w ∈ wsX2_sign := by decide +kernel
  have hl : lv_has ls 2 [(0, .ref b), (1, .int x)] := hl
  obtain ⟨sl, sp, P0, hB, hVo⟩ := hXW
  have hrg := hB.rng
  have hO := hB.O
  have hT := hB.T
  obtain ⟨f3, hSl, hsl⟩ := hB.2.2.1
  have hTn := hT.le
  have hOs := hVo.1.1
  have hVt := hVo.2.1
  refine lv_aload_n hx hb dX2_sign_0 rfl (lv_at hl 0 rfl) ?_
  refine x_get (ci := 2) hx hb hts hown hK rfl hw1 0 (by decide) hw0 hO rfl dX2_sign_1 ?_
  refine lv_iload_n hx hb dX2_sign_4 rfl (lv_at hl 1 rfl) ?_
  refine x_goV_ro (x_runS (As := [.ref (b + 1), .int x]) (rest := []) ⟨hx, hb, hml, hown, hts⟩ hE h0 hS (c_X2_checkPlace l G (b + 1) L x H0 hT) (va_cwS 2 hts gX2_sign_X2_checkPlace rfl rfl rfl (by decide +kernel) ⟨Nat.le_of_ble_eq_true rfl, Nat.le_of_ble_eq_true rfl⟩) (by omega) rfl rfl hl.1 rfl (lv_room (Nat.le_of_ble_eq_true rfl)) dX2_sign_5 ⟨by first | exact Nat.le_of_ble_eq_true rfl | omega, by first | exact Nat.le_of_ble_eq_true rfl | omega⟩) hS (by omega) (fun E ce q9 H1 locs1 hXx hFx hSx hce hcv hcl => x_thru hout hlocks h0 hSx hce hcv hcl (hXx) (by omega) (by omega)) (fun locs hq hS => ?_)
  obtain ⟨i, hi, rfl⟩ := hq
  refine lv_aload_n hx hb dX2_sign_8 rfl (lv_at hl 0 rfl) ?_
  refine x_get (ci := 2) hx hb hts hown hK rfl hw1 0 (by decide) hw0 hO rfl dX2_sign_9 ?_
  refine lv_iload_n hx hb dX2_sign_12 rfl (lv_at hl 1 rfl) ?_
  refine x_goI_ro (x_runV (As := [.int (nI i)]) (rest := []) ⟨hx, hb, hml, hown, hts⟩ hE h0 hS (c_X0_signAt l G (b + 1) L i (by omega) H0 hT) (cwV 1 hts gX2_sign_X0_signAt rfl rfl rfl (by decide +kernel) ⟨Nat.le_of_ble_eq_true rfl, Nat.le_of_ble_eq_true rfl⟩) (hT.recv hK) (by omega) rfl rfl hl.1 rfl (lv_room (Nat.le_of_ble_eq_true rfl)) dX2_sign_13 ⟨by first | exact Nat.le_of_ble_eq_true rfl | omega, by first | exact Nat.le_of_ble_eq_true rfl | omega⟩) hS (by omega) (fun _ _ _ _ _ h => h.elim) (fun locs hq hS => ?_)
  have hcl := hT.cg_lt (i := i) (by omega)
  exact x_zret hx hb hr hlocks h0 hS (by omega) (by omega) dX2_sign_16 (x_charN (by omega)) (⟨rfl, by rw [ix_N (by omega)], i, hi, rfl⟩)

abbrev RMX2_parse : Room := { frames := 7, cells := 2, slots := 12, locals := 158 }
set_option maxHeartbeats 4000000 in
set_option maxRecDepth 100000 in
theorem c_X2_parse (l : Launch) (G : gG) (b : Nat) (L : List Nat) (txt : Nat → List Nat) (x : Int32) (H0 : Heap) (hXW : XW G b L txt H0) : XM l yX2_parse wsX2_parse RMX2_parse G [.ref b, .int x] H0 b (b + 115) 2 12 (qI (fun r H1 => (okN 8 x ∧ L ≠ []) ∧ r = ordr L (txt (ix x)) ∧ XW G b L (up txt (ix x) L) H1)) (fun E H1 => ((E = xIO ∧ ¬ okN 8 x) ∨ (E = xIA ∧ okN 8 x ∧ L = [])) ∧ XW G b L txt H1) := by
  refine x_ofW (cc := cX2_parse) (maxL := 2) (ret := (some .int)) (by decide) rfl (Nat.le_of_ble_eq_true rfl) ?_
  intro p e s m below meth c hx hb hr hml hown hts hlocks hout hin2 h0 hE ls hl
  replace hown : s.vm.findClass RX2 = some m.cls := hown
  have hK := hE.1
  have hS : va_S (gA b (b + 115) H0.size) H0 H0 [] := va_S.rf
  generalize hargs : ([.ref b, .int x] : List Value).toArray = args at hts ⊢
  have hw0 := hts (.fieldLink RX2 10 "Releaseledger" "draft" "LReleaseledger$Text;") (by decide +kernel)
  have hw1 : ∀ w ∈ u_ws RX2 TX2 6, w ∈ wsX2_parse := by decide +kernel
  have hw2 := hts (.fieldLink RX2 33 "Releaseledger" "spare" "LReleaseledger$Version;") (by decide +kernel)
  have hw3 := hts (.classLink RX2 73 xIA) (by decide +kernel)
  have hw4 := hts (.initialized xIA) (by decide +kernel)
  have hl : lv_has ls 2 [(0, .ref b), (1, .int x)] := hl
  obtain ⟨sl, sp, P0, hB, hVo⟩ := hXW
  have hrg := hB.rng
  have hO := hB.O
  have hT := hB.T
  obtain ⟨f3, hSl, hsl⟩ := hB.2.2.1
  have hTn := hT.le
  have hOs := hVo.1.1
  have hVt := hVo.2.1
  refine lv_iload_n hx hb dX2_parse_0 rfl (lv_at hl 1 rfl) ?_
  refine x_goV_ro (x_runS (As := [.int x]) (rest := []) ⟨hx, hb, hml, hown, hts⟩ hE h0 hS (c_X2_checkSlot l G x H0) (va_cwS 1 hts gX2_parse_X2_checkSlot rfl rfl rfl (by decide +kernel) ⟨Nat.le_of_ble_eq_true rfl, Nat.le_of_ble_eq_true rfl⟩) (by omega) rfl rfl hl.1 rfl (lv_room (Nat.le_of_ble_eq_true rfl)) dX2_parse_1 ⟨by first | exact Nat.le_of_ble_eq_true rfl | omega, by first | exact Nat.le_of_ble_eq_true rfl | omega⟩) hS (by omega) (fun E ce q9 H1 locs1 hXx hFx hSx hce hcv hcl => x_thru hout hlocks h0 hSx hce hcv hcl (⟨Or.inl hXx, (XW.mk' hB hVo).fr hFx (by omega)⟩) (by omega) (by omega)) (fun locs hq hS => ?_)
  obtain ⟨i, hi, rfl⟩ := hq
  refine lv_aload_n hx hb dX2_parse_4 rfl (lv_at hl 0 rfl) ?_
  refine x_get (ci := 2) hx hb hts hown hK rfl hw1 0 (by decide) hw0 hO rfl dX2_parse_5 ?_
  refine x_goI_ro (x_runV (As := []) (rest := []) ⟨hx, hb, hml, hown, hts⟩ hE h0 hS (c_X0_length l G (b + 1) L H0 hT) (cwV 0 hts gX2_parse_X0_length rfl rfl rfl (by decide +kernel) ⟨Nat.le_of_ble_eq_true rfl, Nat.le_of_ble_eq_true rfl⟩) (hT.recv hK) (by omega) rfl rfl hl.1 rfl (lv_room (Nat.le_of_ble_eq_true rfl)) dX2_parse_8 ⟨by first | exact Nat.le_of_ble_eq_true rfl | omega, by first | exact Nat.le_of_ble_eq_true rfl | omega⟩) hS (by omega) (fun _ _ _ _ _ h => h.elim) (fun locs hq hS => ?_)
  refine x_if_neN (tgt := 24) hx hb (by omega) dX2_parse_11 (by decide) (fun c11 => ?_) (fun c11 => ?_)
  · have hne : L ≠ [] := fun g => by rw [g] at c11; exact absurd c11 (by decide)
    have hgL := hB.d.resolve_left hne
    refine lv_aload_n hx hb dX2_parse_24 rfl (lv_at hl 0 rfl) ?_
    refine x_get (ci := 2) hx hb hts hown hK rfl hw1 5 (by decide) hw2 hO rfl dX2_parse_25 ?_
    refine lv_aload_n hx hb dX2_parse_28 rfl (lv_at hl 0 rfl) ?_
    refine x_get (ci := 2) hx hb hts hown hK rfl hw1 0 (by decide) hw0 hO rfl dX2_parse_29 ?_
    refine x_goV (x_runV (As := [.ref (b + 1)]) (rest := []) ⟨hx, hb, hml, hown, hts⟩ hE h0 hS (c_X1_tell l G (vk b sp) (b + 1) P0 L (by omega) H0 hVo hT) (cwV 1 hts gX2_parse_X1_tell rfl rfl rfl (by decide +kernel) ⟨Nat.le_of_ble_eq_true rfl, Nat.le_of_ble_eq_true rfl⟩) (hVo.recv hK) (by omega) rfl rfl hl.1 rfl (lv_room (Nat.le_of_ble_eq_true rfl)) dX2_parse_32 ⟨by first | exact Nat.le_of_ble_eq_true rfl | omega, by first | exact Nat.le_of_ble_eq_true rfl | omega⟩) hS (by omega) (fun _ _ _ _ _ h => h.elim) (fun  H3 locs hq hF hS => ?_)
    have hO := hO.fr hF (by omega)
    have hB := hB.fr hF (by omega)
    have hT := hT.fr hF (by omega)
    have hVo := hq
    refine lv_aload_n hx hb dX2_parse_35 rfl (lv_at hl 0 rfl) ?_
    refine x_get (ci := 2) hx hb hts hown hK rfl hw1 5 (by decide) hw2 hO rfl dX2_parse_36 ?_
    refine x_goV (x_runV (As := []) (rest := []) ⟨hx, hb, hml, hown, hts⟩ hE h0 hS (c_X1_readTokens l G (vk b sp) L H3 hVo) (cwV 0 hts gX2_parse_X1_readTokens rfl rfl rfl (by decide +kernel) ⟨Nat.le_of_ble_eq_true rfl, Nat.le_of_ble_eq_true rfl⟩) (hVo.recv hK) (by omega) rfl rfl hl.1 rfl (lv_room (Nat.le_of_ble_eq_true rfl)) dX2_parse_39 ⟨by first | exact Nat.le_of_ble_eq_true rfl | omega, by first | exact Nat.le_of_ble_eq_true rfl | omega⟩) hS (by omega) (fun _ _ _ _ _ h => h.elim) (fun  H4 locs hq hF hS => ?_)
    have hO := hO.fr hF (by omega)
    have hB := hB.fr hF (by omega)
    have hT := hT.fr hF (by omega)
    have hP := hq
    refine lv_aload_n hx hb dX2_parse_42 rfl (lv_at hl 0 rfl) ?_
    refine lv_iload_n hx hb dX2_parse_43 rfl (lv_at hl 1 rfl) ?_
    refine x_goI (x_runV (As := [.int (nI i)]) (rest := []) ⟨hx, hb, hml, hown, hts⟩ hE h0 hS (c_X2_exchangeSpare l G b L txt sl sp L i (by omega) hgL H4 hB hP) (cwV 1 hts gX2_parse_X2_exchangeSpare rfl rfl rfl (by decide +kernel) ⟨Nat.le_of_ble_eq_true rfl, Nat.le_of_ble_eq_true rfl⟩) (hB.recv hK) (by omega) rfl rfl hl.1 rfl (lv_room (Nat.le_of_ble_eq_true rfl)) dX2_parse_44 ⟨by first | exact Nat.le_of_ble_eq_true rfl | omega, by first | exact Nat.le_of_ble_eq_true rfl | omega⟩) hS (by omega) (fun _ _ _ _ _ h => h.elim) (fun r6 H5 locs hq hF hS => ?_)
    obtain ⟨hr1, hX1⟩ := hq
    exact x_iret hx hb hr hlocks h0 hS (by omega) (by omega) dX2_parse_47 (⟨⟨⟨i, hi, rfl⟩, hne⟩, by rw [hr1, ix_N (by omega)], by rw [ix_N (by omega)]; exact hX1⟩)
  · exact x_throw (cls := xIA) (text := "the draft is empty") hx hb hE h0 hS hown hlocks hout (by rw [hml]; exact hl.1) (by decide) hw3 hw4 ot_IA (by decide +kernel) nb_IA (fun w h => by first | exact hts w (List.mem_cons_of_mem _ (List.mem_append_right _ h)) | exact hts w (List.mem_cons_of_mem _ (List.mem_append_left _ (List.mem_append_right _ h))) | exact hts w (List.mem_cons_of_mem _ (List.mem_append_left _ (List.mem_append_left _ (List.mem_append_right _ h))))) dX2_parse_14 dX2_parse_17 dX2_parse_18 dX2_parse_20 dX2_parse_23 (Nat.le_of_ble_eq_true rfl) (Nat.le_of_ble_eq_true rfl) (Nat.le_of_ble_eq_true rfl) (Nat.le_of_ble_eq_true rfl) (by omega) (by omega) (fun H1 hF => ⟨Or.inr ⟨rfl, ⟨i, hi, rfl⟩, List.eq_nil_of_length_eq_zero c11⟩, (XW.mk' hB hVo).fr hF (by omega)⟩)

abbrev RMX2_copy : Room := { frames := 8, cells := 2, slots := 12, locals := 158 }
set_option maxHeartbeats 4000000 in
set_option maxRecDepth 100000 in
theorem c_X2_copy (l : Launch) (G : gG) (b : Nat) (L : List Nat) (txt : Nat → List Nat) (x y : Int32) (H0 : Heap) (hXW : XW G b L txt H0) : XM l yX2_copy wsX2_copy RMX2_copy G [.ref b, .int x, .int y] H0 b (b + 115) 2 12 (qI (fun r H1 => (okN 8 x ∧ okN 8 y) ∧ r = ordr (txt (ix x)) (txt (ix y)) ∧ XW G b L (up txt (ix y) (txt (ix x))) H1)) (fun E H1 => E = xIO ∧ ¬ (okN 8 x ∧ okN 8 y) ∧ XW G b L txt H1) := by
  refine x_ofW (cc := cX2_copy) (maxL := 4) (ret := (some .int)) (by decide) rfl (Nat.le_of_ble_eq_true rfl) ?_
  intro p e s m below meth c hx hb hr hml hown hts hlocks hout hin2 h0 hE ls hl
  replace hown : s.vm.findClass RX2 = some m.cls := hown
  have hK := hE.1
  have hS : va_S (gA b (b + 115) H0.size) H0 H0 [] := va_S.rf
  generalize hargs : ([.ref b, .int x, .int y] : List Value).toArray = args at hts ⊢
  have hl : lv_has ls 4 [(0, .ref b), (1, .int x), (2, .int y)] := hl
  obtain ⟨sl, sp, P0, hB, hVo⟩ := hXW
  have hrg := hB.rng
  have hO := hB.O
  have hT := hB.T
  obtain ⟨f3, hSl, hsl⟩ := hB.2.2.1
  have hTn := hT.le
  have hOs := hVo.1.1
  have hVt := hVo.2.1
  refine lv_aload_n hx hb dX2_copy_0 rfl (lv_at hl 0 rfl) ?_
  refine lv_iload_n hx hb dX2_copy_1 rfl (lv_at hl 1 rfl) ?_
  refine x_goR_ro (x_runV (As := [.int x]) (rest := []) ⟨hx, hb, hml, hown, hts⟩ hE h0 hS (c_X2_versionIn l G b L txt sl sp x H0 hB) (cwV 1 hts gX2_copy_X2_versionIn rfl rfl rfl (by decide +kernel) ⟨Nat.le_of_ble_eq_true rfl, Nat.le_of_ble_eq_true rfl⟩) (hB.recv hK) (by omega) rfl rfl hl.1 rfl (lv_room (Nat.le_of_ble_eq_true rfl)) dX2_copy_2 ⟨by first | exact Nat.le_of_ble_eq_true rfl | omega, by first | exact Nat.le_of_ble_eq_true rfl | omega⟩) hS (by omega) (fun E ce q9 H1 locs1 hXx hFx hSx hce hcv hcl => x_thru hout hlocks h0 hSx hce hcv hcl (⟨hXx.1, fun h => hXx.2 h.1, (XW.mk' hB hVo).fr hFx (by omega)⟩) (by omega) (by omega)) (fun locs hq hS => ?_)
  obtain ⟨i, hi, rfl⟩ := hq
  refine x_rwr (z := vk b (sl i)) (by rw [ix_N (by omega)]) ?_
  have hM_i := hB.V (i := i) (by omega)
  have hO_i := hM_i.1.1
  have hMt_i := hM_i.2.1
  have hMn_i := hMt_i.le
  have hdis_i := hB.dis (i := i) (by omega)
  have gM_i := hB.g (i := i) (by omega)
  have hri_i := hB.rngi (i := i) (by omega)
  refine lv_astore_n (lv' := [(3, .ref (vk b (sl i))), (0, .ref b), (1, .int (nI i)), (2, .int y)]) hx hb dX2_copy_5 rfl hl (by decide) rfl (fun ls hl => ?_)
  refine lv_iload_n hx hb dX2_copy_6 rfl (lv_at hl 3 rfl) ?_
  refine x_goV_ro (x_runS (As := [.int y]) (rest := []) ⟨hx, hb, hml, hown, hts⟩ hE h0 hS (c_X2_checkSlot l G y H0) (va_cwS 1 hts gX2_copy_X2_checkSlot rfl rfl rfl (by decide +kernel) ⟨Nat.le_of_ble_eq_true rfl, Nat.le_of_ble_eq_true rfl⟩) (by omega) rfl rfl hl.1 rfl (lv_room (Nat.le_of_ble_eq_true rfl)) dX2_copy_7 ⟨by first | exact Nat.le_of_ble_eq_true rfl | omega, by first | exact Nat.le_of_ble_eq_true rfl | omega⟩) hS (by omega) (fun E ce q9 H1 locs1 hXx hFx hSx hce hcv hcl => x_thru hout hlocks h0 hSx hce hcv hcl (⟨hXx.1, fun h => hXx.2 h.2, (XW.mk' hB hVo).fr hFx (by omega)⟩) (by omega) (by omega)) (fun locs hq hS => ?_)
  obtain ⟨j, hj, rfl⟩ := hq
  refine lv_aload_n hx hb dX2_copy_10 rfl (lv_at hl 1 rfl) ?_
  refine lv_aload_n hx hb dX2_copy_11 rfl (lv_at hl 0 rfl) ?_
  refine x_goV (x_runV (As := [.ref (vk b (sl i))]) (rest := []) ⟨hx, hb, hml, hown, hts⟩ hE h0 hS (c_X2_parseAnew l G b L txt sl sp P0 i (by omega) H0 hB hVo) (cwV 1 hts gX2_copy_X2_parseAnew rfl rfl rfl (by decide +kernel) ⟨Nat.le_of_ble_eq_true rfl, Nat.le_of_ble_eq_true rfl⟩) (hB.recv hK) (by omega) rfl rfl hl.1 rfl (lv_room (Nat.le_of_ble_eq_true rfl)) dX2_copy_12 ⟨by first | exact Nat.le_of_ble_eq_true rfl | omega, by first | exact Nat.le_of_ble_eq_true rfl | omega⟩) hS (by omega) (fun _ _ _ _ _ h => h.elim) (fun  H3 locs hq hF hS => ?_)
  have hO := hO.fr hF (by omega)
  have hO_i := hO_i.fr hF (by omega)
  have hB := hB.fr hF (by omega)
  have hP := hq
  refine lv_aload_n hx hb dX2_copy_15 rfl (lv_at hl 1 rfl) ?_
  refine lv_iload_n hx hb dX2_copy_16 rfl (lv_at hl 3 rfl) ?_
  refine x_goI (x_runV (As := [.int (nI j)]) (rest := []) ⟨hx, hb, hml, hown, hts⟩ hE h0 hS (c_X2_exchangeSpare l G b L txt sl sp (txt i) j (by omega) gM_i H3 hB hP) (cwV 1 hts gX2_copy_X2_exchangeSpare rfl rfl rfl (by decide +kernel) ⟨Nat.le_of_ble_eq_true rfl, Nat.le_of_ble_eq_true rfl⟩) (hB.recv hK) (by omega) rfl rfl hl.1 rfl (lv_room (Nat.le_of_ble_eq_true rfl)) dX2_copy_17 ⟨by first | exact Nat.le_of_ble_eq_true rfl | omega, by first | exact Nat.le_of_ble_eq_true rfl | omega⟩) hS (by omega) (fun _ _ _ _ _ h => h.elim) (fun r5 H4 locs hq hF hS => ?_)
  obtain ⟨hr1, hX1⟩ := hq
  exact x_iret hx hb hr hlocks h0 hS (by omega) (by omega) dX2_copy_20 (⟨⟨⟨i, hi, rfl⟩, j, hj, rfl⟩, by rw [hr1, ix_N (by omega), ix_N (by omega)], by rw [ix_N (by omega), ix_N (by omega)]; exact hX1⟩)

abbrev RMX2_size : Room := { frames := 8, cells := 1, slots := 6, locals := 141 }
set_option maxHeartbeats 4000000 in
set_option maxRecDepth 100000 in
theorem c_X2_size (l : Launch) (G : gG) (b : Nat) (L : List Nat) (txt : Nat → List Nat) (x : Int32) (H0 : Heap) (hXW : XW G b L txt H0) : XM l yX2_size wsX2_size RMX2_size G [.ref b, .int x] H0 0 0 1 6 (roI H0 (nI (txt (ix x)).length) (okN 8 x)) (fun E _ => E = xIO ∧ ¬ okN 8 x) := by
  refine x_ofW (cc := cX2_size) (maxL := 2) (ret := (some .int)) (by decide) rfl (Nat.le_of_ble_eq_true rfl) ?_
  intro p e s m below meth c hx hb hr hml hown hts hlocks hout hin2 h0 hE ls hl
  replace hown : s.vm.findClass RX2 = some m.cls := hown
  have hK := hE.1
  have hS : va_S (gA 0 0 H0.size) H0 H0 [] := va_S.rf
  generalize hargs : ([.ref b, .int x] : List Value).toArray = args at hts ⊢
  have hw0 : ∀ w ∈ u_ws RX1 TX1 4, w ∈ wsX2_size := by decide +kernel
  have hl : lv_has ls 2 [(0, .ref b), (1, .int x)] := hl
  obtain ⟨sl, sp, P0, hB, hVo⟩ := hXW
  have hrg := hB.rng
  have hO := hB.O
  have hT := hB.T
  obtain ⟨f3, hSl, hsl⟩ := hB.2.2.1
  have hTn := hT.le
  have hOs := hVo.1.1
  have hVt := hVo.2.1
  refine lv_aload_n hx hb dX2_size_0 rfl (lv_at hl 0 rfl) ?_
  refine lv_iload_n hx hb dX2_size_1 rfl (lv_at hl 1 rfl) ?_
  refine x_goR_ro (x_runV (As := [.int x]) (rest := []) ⟨hx, hb, hml, hown, hts⟩ hE h0 hS (c_X2_versionIn l G b L txt sl sp x H0 hB) (cwV 1 hts gX2_size_X2_versionIn rfl rfl rfl (by decide +kernel) ⟨Nat.le_of_ble_eq_true rfl, Nat.le_of_ble_eq_true rfl⟩) (hB.recv hK) (by omega) rfl rfl hl.1 rfl (lv_room (Nat.le_of_ble_eq_true rfl)) dX2_size_2 ⟨by first | exact Nat.le_of_ble_eq_true rfl | omega, by first | exact Nat.le_of_ble_eq_true rfl | omega⟩) hS (by omega) (fun E ce q9 H1 locs1 hXx hFx hSx hce hcv hcl => x_thru hout hlocks h0 hSx hce hcv hcl (hXx) (by omega) (by omega)) (fun locs hq hS => ?_)
  obtain ⟨i, hi, rfl⟩ := hq
  refine x_rwr (z := vk b (sl i)) (by rw [ix_N (by omega)]) ?_
  have hM_i := hB.V (i := i) (by omega)
  have hO_i := hM_i.1.1
  have hMt_i := hM_i.2.1
  have hMn_i := hMt_i.le
  have hdis_i := hB.dis (i := i) (by omega)
  have gM_i := hB.g (i := i) (by omega)
  have hri_i := hB.rngi (i := i) (by omega)
  refine x_getN (ci := 1) (host := RX2) hx hb hts hown hK rfl hw0 0 (by decide) (x_nest hE (by decide +kernel)) hO_i rfl dX2_size_5 ?_
  refine x_goI_ro (x_runV (As := []) (rest := []) ⟨hx, hb, hml, hown, hts⟩ hE h0 hS (c_X0_length l G (vk b (sl i) + 1) (txt i) H0 hMt_i) (cwV 0 hts gX2_size_X0_length rfl rfl rfl (by decide +kernel) ⟨Nat.le_of_ble_eq_true rfl, Nat.le_of_ble_eq_true rfl⟩) (hMt_i.recv hK) (by omega) rfl rfl hl.1 rfl (lv_room (Nat.le_of_ble_eq_true rfl)) dX2_size_8 ⟨by first | exact Nat.le_of_ble_eq_true rfl | omega, by first | exact Nat.le_of_ble_eq_true rfl | omega⟩) hS (by omega) (fun _ _ _ _ _ h => h.elim) (fun locs hq hS => ?_)
  exact x_iret hx hb hr hlocks h0 hS (by omega) (by omega) dX2_size_11 (⟨rfl, by rw [ix_N (by omega)], i, hi, rfl⟩)

abbrev RMX2_text : Room := { frames := 8, cells := 2, slots := 12, locals := 141 }
set_option maxHeartbeats 4000000 in
set_option maxRecDepth 100000 in
theorem c_X2_text (l : Launch) (G : gG) (b : Nat) (L : List Nat) (txt : Nat → List Nat) (x y : Int32) (H0 : Heap) (hXW : XW G b L txt H0) : XM l yX2_text wsX2_text RMX2_text G [.ref b, .int x, .int y] H0 0 0 2 12 (roI H0 (nI (cg (txt (ix x)) (ix y))) (okN 8 x ∧ okN (txt (ix x)).length y)) (fun E _ => E = xIO ∧ ¬ (okN 8 x ∧ okN (txt (ix x)).length y)) := by
  refine x_ofW (cc := cX2_text) (maxL := 4) (ret := (some .char)) (by decide) rfl (Nat.le_of_ble_eq_true rfl) ?_
  intro p e s m below meth c hx hb hr hml hown hts hlocks hout hin2 h0 hE ls hl
  replace hown : s.vm.findClass RX2 = some m.cls := hown
  have hK := hE.1
  have hS : va_S (gA 0 0 H0.size) H0 H0 [] := va_S.rf
  generalize hargs : ([.ref b, .int x, .int y] : List Value).toArray = args at hts ⊢
  have hw0 : ∀ w ∈ u_ws RX1 TX1 4, w ∈ wsX2_text := by decide +kernel
  have hl : lv_has ls 4 [(0, .ref b), (1, .int x), (2, .int y)] := hl
  obtain ⟨sl, sp, P0, hB, hVo⟩ := hXW
  have hrg := hB.rng
  have hO := hB.O
  have hT := hB.T
  obtain ⟨f3, hSl, hsl⟩ := hB.2.2.1
  have hTn := hT.le
  have hOs := hVo.1.1
  have hVt := hVo.2.1
  refine lv_aload_n hx hb dX2_text_0 rfl (lv_at hl 0 rfl) ?_
  refine lv_iload_n hx hb dX2_text_1 rfl (lv_at hl 1 rfl) ?_
  refine x_goR_ro (x_runV (As := [.int x]) (rest := []) ⟨hx, hb, hml, hown, hts⟩ hE h0 hS (c_X2_versionIn l G b L txt sl sp x H0 hB) (cwV 1 hts gX2_text_X2_versionIn rfl rfl rfl (by decide +kernel) ⟨Nat.le_of_ble_eq_true rfl, Nat.le_of_ble_eq_true rfl⟩) (hB.recv hK) (by omega) rfl rfl hl.1 rfl (lv_room (Nat.le_of_ble_eq_true rfl)) dX2_text_2 ⟨by first | exact Nat.le_of_ble_eq_true rfl | omega, by first | exact Nat.le_of_ble_eq_true rfl | omega⟩) hS (by omega) (fun E ce q9 H1 locs1 hXx hFx hSx hce hcv hcl => x_thru hout hlocks h0 hSx hce hcv hcl (⟨hXx.1, fun h => hXx.2 h.1⟩) (by omega) (by omega)) (fun locs hq hS => ?_)
  obtain ⟨i, hi, rfl⟩ := hq
  refine x_rwr (z := vk b (sl i)) (by rw [ix_N (by omega)]) ?_
  have hM_i := hB.V (i := i) (by omega)
  have hO_i := hM_i.1.1
  have hMt_i := hM_i.2.1
  have hMn_i := hMt_i.le
  have hdis_i := hB.dis (i := i) (by omega)
  have gM_i := hB.g (i := i) (by omega)
  have hri_i := hB.rngi (i := i) (by omega)
  refine lv_astore_n (lv' := [(3, .ref (vk b (sl i))), (0, .ref b), (1, .int (nI i)), (2, .int y)]) hx hb dX2_text_5 rfl hl (by decide) rfl (fun ls hl => ?_)
  refine lv_aload_n hx hb dX2_text_6 rfl (lv_at hl 0 rfl) ?_
  refine x_getN (ci := 1) (host := RX2) hx hb hts hown hK rfl hw0 0 (by decide) (x_nest hE (by decide +kernel)) hO_i rfl dX2_text_7 ?_
  refine lv_iload_n hx hb dX2_text_10 rfl (lv_at hl 3 rfl) ?_
  refine x_goV_ro (x_runS (As := [.ref (vk b (sl i) + 1), .int y]) (rest := []) ⟨hx, hb, hml, hown, hts⟩ hE h0 hS (c_X2_checkPlace l G (vk b (sl i) + 1) (txt i) y H0 hMt_i) (va_cwS 2 hts gX2_text_X2_checkPlace rfl rfl rfl (by decide +kernel) ⟨Nat.le_of_ble_eq_true rfl, Nat.le_of_ble_eq_true rfl⟩) (by omega) rfl rfl hl.1 rfl (lv_room (Nat.le_of_ble_eq_true rfl)) dX2_text_11 ⟨by first | exact Nat.le_of_ble_eq_true rfl | omega, by first | exact Nat.le_of_ble_eq_true rfl | omega⟩) hS (by omega) (fun E ce q9 H1 locs1 hXx hFx hSx hce hcv hcl => x_thru hout hlocks h0 hSx hce hcv hcl (⟨hXx.1, fun h => hXx.2 (by have h2 := h.2; rw [ix_N (by omega)] at h2; exact h2)⟩) (by omega) (by omega)) (fun locs hq hS => ?_)
  obtain ⟨j, hj, rfl⟩ := hq
  refine lv_aload_n hx hb dX2_text_14 rfl (lv_at hl 0 rfl) ?_
  refine x_getN (ci := 1) (host := RX2) hx hb hts hown hK rfl hw0 0 (by decide) (x_nest hE (by decide +kernel)) hO_i rfl dX2_text_15 ?_
  refine lv_iload_n hx hb dX2_text_18 rfl (lv_at hl 3 rfl) ?_
  refine x_goI_ro (x_runV (As := [.int (nI j)]) (rest := []) ⟨hx, hb, hml, hown, hts⟩ hE h0 hS (c_X0_signAt l G (vk b (sl i) + 1) (txt i) j (by omega) H0 hMt_i) (cwV 1 hts gX2_text_X0_signAt rfl rfl rfl (by decide +kernel) ⟨Nat.le_of_ble_eq_true rfl, Nat.le_of_ble_eq_true rfl⟩) (hMt_i.recv hK) (by omega) rfl rfl hl.1 rfl (lv_room (Nat.le_of_ble_eq_true rfl)) dX2_text_19 ⟨by first | exact Nat.le_of_ble_eq_true rfl | omega, by first | exact Nat.le_of_ble_eq_true rfl | omega⟩) hS (by omega) (fun _ _ _ _ _ h => h.elim) (fun locs hq hS => ?_)
  have hcl := hMt_i.cg_lt (i := j) (by omega)
  exact x_zret hx hb hr hlocks h0 hS (by omega) (by omega) dX2_text_22 (x_charN (by omega)) (⟨rfl, by rw [ix_N (by omega), ix_N (by omega)], ⟨i, hi, rfl⟩, by rw [ix_N (by omega)]; exact ⟨j, hj, rfl⟩⟩)

abbrev RMX2_tokens : Room := { frames := 8, cells := 2, slots := 12, locals := 141 }
set_option maxHeartbeats 4000000 in
set_option maxRecDepth 100000 in
theorem c_X2_tokens (l : Launch) (G : gG) (b : Nat) (L : List Nat) (txt : Nat → List Nat) (x y : Int32) (H0 : Heap) (hXW : XW G b L txt H0) : XM l yX2_tokens wsX2_tokens RMX2_tokens G [.ref b, .int x, .int y] H0 0 0 2 12 (roI H0 (nI (tk (txt (ix x)) (ix y)).length) (okN 8 x ∧ okN 3 y)) (fun E _ => (E = xIO ∧ ¬ okN 8 x) ∨ (E = xIA ∧ okN 8 x ∧ ¬ okN 3 y)) := by
  refine x_ofW (cc := cX2_tokens) (maxL := 4) (ret := (some .int)) (by decide) rfl (Nat.le_of_ble_eq_true rfl) ?_
  intro p e s m below meth c hx hb hr hml hown hts hlocks hout hin2 h0 hE ls hl
  replace hown : s.vm.findClass RX2 = some m.cls := hown
  have hK := hE.1
  have hS : va_S (gA 0 0 H0.size) H0 H0 [] := va_S.rf
  generalize hargs : ([.ref b, .int x, .int y] : List Value).toArray = args at hts ⊢
  have hl : lv_has ls 4 [(0, .ref b), (1, .int x), (2, .int y)] := hl
  obtain ⟨sl, sp, P0, hB, hVo⟩ := hXW
  have hrg := hB.rng
  have hO := hB.O
  have hT := hB.T
  obtain ⟨f3, hSl, hsl⟩ := hB.2.2.1
  have hTn := hT.le
  have hOs := hVo.1.1
  have hVt := hVo.2.1
  refine lv_aload_n hx hb dX2_tokens_0 rfl (lv_at hl 0 rfl) ?_
  refine lv_iload_n hx hb dX2_tokens_1 rfl (lv_at hl 1 rfl) ?_
  refine x_goR_ro (x_runV (As := [.int x]) (rest := []) ⟨hx, hb, hml, hown, hts⟩ hE h0 hS (c_X2_versionIn l G b L txt sl sp x H0 hB) (cwV 1 hts gX2_tokens_X2_versionIn rfl rfl rfl (by decide +kernel) ⟨Nat.le_of_ble_eq_true rfl, Nat.le_of_ble_eq_true rfl⟩) (hB.recv hK) (by omega) rfl rfl hl.1 rfl (lv_room (Nat.le_of_ble_eq_true rfl)) dX2_tokens_2 ⟨by first | exact Nat.le_of_ble_eq_true rfl | omega, by first | exact Nat.le_of_ble_eq_true rfl | omega⟩) hS (by omega) (fun E ce q9 H1 locs1 hXx hFx hSx hce hcv hcl => x_thru hout hlocks h0 hSx hce hcv hcl (Or.inl hXx) (by omega) (by omega)) (fun locs hq hS => ?_)
  obtain ⟨i, hi, rfl⟩ := hq
  refine x_rwr (z := vk b (sl i)) (by rw [ix_N (by omega)]) ?_
  have hM_i := hB.V (i := i) (by omega)
  have hO_i := hM_i.1.1
  have hMt_i := hM_i.2.1
  have hMn_i := hMt_i.le
  have hdis_i := hB.dis (i := i) (by omega)
  have gM_i := hB.g (i := i) (by omega)
  have hri_i := hB.rngi (i := i) (by omega)
  refine lv_astore_n (lv' := [(3, .ref (vk b (sl i))), (0, .ref b), (1, .int (nI i)), (2, .int y)]) hx hb dX2_tokens_5 rfl hl (by decide) rfl (fun ls hl => ?_)
  refine lv_iload_n hx hb dX2_tokens_6 rfl (lv_at hl 3 rfl) ?_
  refine x_goV_ro (x_runS (As := [.int y]) (rest := []) ⟨hx, hb, hml, hown, hts⟩ hE h0 hS (c_X2_checkRow l G y H0) (va_cwS 1 hts gX2_tokens_X2_checkRow rfl rfl rfl (by decide +kernel) ⟨Nat.le_of_ble_eq_true rfl, Nat.le_of_ble_eq_true rfl⟩) (by omega) rfl rfl hl.1 rfl (lv_room (Nat.le_of_ble_eq_true rfl)) dX2_tokens_7 ⟨by first | exact Nat.le_of_ble_eq_true rfl | omega, by first | exact Nat.le_of_ble_eq_true rfl | omega⟩) hS (by omega) (fun E ce q9 H1 locs1 hXx hFx hSx hce hcv hcl => x_thru hout hlocks h0 hSx hce hcv hcl (Or.inr ⟨hXx.1, ⟨i, hi, rfl⟩, hXx.2⟩) (by omega) (by omega)) (fun locs hq hS => ?_)
  obtain ⟨t, ht, rfl⟩ := hq
  refine lv_aload_n hx hb dX2_tokens_10 rfl (lv_at hl 0 rfl) ?_
  refine lv_iload_n hx hb dX2_tokens_11 rfl (lv_at hl 3 rfl) ?_
  refine x_goI_ro (x_runV (As := [.int (nI t)]) (rest := []) ⟨hx, hb, hml, hown, hts⟩ hE h0 hS (c_X1_tokensIn l G (vk b (sl i)) (txt i) (tk (txt i)) t (by omega) H0 hM_i) (cwV 1 hts gX2_tokens_X1_tokensIn rfl rfl rfl (by decide +kernel) ⟨Nat.le_of_ble_eq_true rfl, Nat.le_of_ble_eq_true rfl⟩) (hM_i.recv hK) (by omega) rfl rfl hl.1 rfl (lv_room (Nat.le_of_ble_eq_true rfl)) dX2_tokens_12 ⟨by first | exact Nat.le_of_ble_eq_true rfl | omega, by first | exact Nat.le_of_ble_eq_true rfl | omega⟩) hS (by omega) (fun _ _ _ _ _ h => h.elim) (fun locs hq hS => ?_)
  have h60 := hM_i.2.2.2.2 t (by omega)
  exact x_iret hx hb hr hlocks h0 hS (by omega) (by omega) dX2_tokens_15 (⟨rfl, by rw [ix_N (by omega), ix_N (by omega)], ⟨i, hi, rfl⟩, t, ht, rfl⟩)
