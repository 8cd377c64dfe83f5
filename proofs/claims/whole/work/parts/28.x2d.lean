abbrev RMX2_token : Room := { frames := 8, cells := 3, slots := 18, locals := 141 }
set_option maxHeartbeats 4000000 in
set_option maxRecDepth 100000 in
theorem c_X2_token (l : Launch) (G : gG) (b : Nat) (L : List Nat) (txt : Nat → List Nat) (x y z : Int32) (H0 : Heap) (hXW : XW G b L txt H0) : XM l yX2_token wsX2_token RMX2_token G [.ref b, .int x, .int y, .int z] H0 0 0 3 18 (roI H0 (tsz (txt (ix x)) (tk (txt (ix x))) (ix y) (ix z)) (okN 8 x ∧ okN 3 y ∧ okN (tk (txt (ix x)) (ix y)).length z)) (fun E _ => (E = xIO ∧ ¬ okN 8 x) ∨ (E = xIA ∧ okN 8 x ∧ ¬ okN 3 y) ∨ (E = xIO ∧ okN 8 x ∧ okN 3 y ∧ ¬ okN (tk (txt (ix x)) (ix y)).length z)) := by
  refine x_ofW (cc := cX2_token) (maxL := 5) (ret := (some .int)) (by decide) rfl (Nat.le_of_ble_eq_true rfl) ?_
  intro p e s m below meth c hx hb hr hml hown hts hlocks hout hin2 h0 hE ls hl
  replace hown : s.vm.findClass RX2 = some m.cls := hown
  have hK := hE.1
  have hS : va_S (gA 0 0 H0.size) H0 H0 [] := va_S.rf
  generalize hargs : ([.ref b, .int x, .int y, .int z] : List Value).toArray = args at hts ⊢
  have hw0 := hts (.classLink RX2 126 xIO) (by decide +kernel)
  have hw1 := hts (.initialized xIO) (by decide +kernel)
  have hl : lv_has ls 5 [(0, .ref b), (1, .int x), (2, .int y), (3, .int z)] := hl
  obtain ⟨sl, sp, P0, hB, hVo⟩ := hXW
  have hrg := hB.rng
  have hO := hB.O
  have hT := hB.T
  obtain ⟨f3, hSl, hsl⟩ := hB.2.2.1
  have hTn := hT.le
  have hOs := hVo.1.1
  have hVt := hVo.2.1
  refine lv_aload_n hx hb dX2_token_0 rfl (lv_at hl 0 rfl) ?_
  refine lv_iload_n hx hb dX2_token_1 rfl (lv_at hl 1 rfl) ?_
  refine x_goR_ro (x_runV (As := [.int x]) (rest := []) ⟨hx, hb, hml, hown, hts⟩ hE h0 hS (c_X2_versionIn l G b L txt sl sp x H0 hB) (cwV 1 hts gX2_token_X2_versionIn rfl rfl rfl (by decide +kernel) ⟨Nat.le_of_ble_eq_true rfl, Nat.le_of_ble_eq_true rfl⟩) (hB.recv hK) (by omega) rfl rfl hl.1 rfl (lv_room (Nat.le_of_ble_eq_true rfl)) dX2_token_2 ⟨by first | exact Nat.le_of_ble_eq_true rfl | omega, by first | exact Nat.le_of_ble_eq_true rfl | omega⟩) hS (by omega) (fun E ce q9 H1 locs1 hXx hFx hSx hce hcv hcl => x_thru hout hlocks h0 hSx hce hcv hcl (Or.inl hXx) (by omega) (by omega)) (fun locs hq hS => ?_)
  obtain ⟨i, hi, rfl⟩ := hq
  refine x_rwr (z := vk b (sl i)) (by rw [ix_N (by omega)]) ?_
  have hM_i := hB.V (i := i) (by omega)
  have hO_i := hM_i.1.1
  have hMt_i := hM_i.2.1
  have hMn_i := hMt_i.le
  have hdis_i := hB.dis (i := i) (by omega)
  have gM_i := hB.g (i := i) (by omega)
  have hri_i := hB.rngi (i := i) (by omega)
  refine lv_astore (lv' := [(4, .ref (vk b (sl i))), (0, .ref b), (1, .int (nI i)), (2, .int y), (3, .int z)]) hx hb dX2_token_5 hl (by decide) rfl (fun ls hl => ?_)
  refine lv_iload_n hx hb dX2_token_7 rfl (lv_at hl 3 rfl) ?_
  refine x_goV_ro (x_runS (As := [.int y]) (rest := []) ⟨hx, hb, hml, hown, hts⟩ hE h0 hS (c_X2_checkRow l G y H0) (va_cwS 1 hts gX2_token_X2_checkRow rfl rfl rfl (by decide +kernel) ⟨Nat.le_of_ble_eq_true rfl, Nat.le_of_ble_eq_true rfl⟩) (by omega) rfl rfl hl.1 rfl (lv_room (Nat.le_of_ble_eq_true rfl)) dX2_token_8 ⟨by first | exact Nat.le_of_ble_eq_true rfl | omega, by first | exact Nat.le_of_ble_eq_true rfl | omega⟩) hS (by omega) (fun E ce q9 H1 locs1 hXx hFx hSx hce hcv hcl => x_thru hout hlocks h0 hSx hce hcv hcl (Or.inr (Or.inl ⟨hXx.1, ⟨i, hi, rfl⟩, hXx.2⟩)) (by omega) (by omega)) (fun locs hq hS => ?_)
  obtain ⟨t, ht, rfl⟩ := hq
  refine lv_iload_n hx hb dX2_token_11 rfl (lv_at hl 4 rfl) ?_
  refine lv_if_lt (tgt := 25) hx hb dX2_token_12 (by decide) (fun c12 => ?_) (fun c12 => ?_)
  · exact x_throw (cls := xIO) (text := "the row has no such place") hx hb hE h0 hS hown hlocks hout (by rw [hml]; exact hl.1) (by decide) hw0 hw1 ot_IO (by decide +kernel) nb_IO (fun w h => by first | exact hts w (List.mem_cons_of_mem _ (List.mem_append_right _ h)) | exact hts w (List.mem_cons_of_mem _ (List.mem_append_left _ (List.mem_append_right _ h))) | exact hts w (List.mem_cons_of_mem _ (List.mem_append_left _ (List.mem_append_left _ (List.mem_append_right _ h))))) dX2_token_25 dX2_token_28 dX2_token_29 dX2_token_31 dX2_token_34 (Nat.le_of_ble_eq_true rfl) (Nat.le_of_ble_eq_true rfl) (Nat.le_of_ble_eq_true rfl) (Nat.le_of_ble_eq_true rfl) (by omega) (by omega) (fun H1 hF => Or.inr (Or.inr ⟨rfl, ⟨i, hi, rfl⟩, ⟨t, ht, rfl⟩, by rw [ix_N (by omega), ix_N (by omega)]; exact fun h => by first | (have h6 := hM_i.2.2.2.2 t (by omega); have h2 := (okN_iff (by omega)).mp h; first | exact h2.1 c12 | exact c22 h2.2)⟩))
  · refine lv_iload_n hx hb dX2_token_15 rfl (lv_at hl 4 rfl) ?_
    refine lv_aload hx hb dX2_token_16 (lv_at hl 0 rfl) ?_
    refine lv_iload_n hx hb dX2_token_18 rfl (lv_at hl 3 rfl) ?_
    refine x_goI_ro (x_runV (As := [.int (nI t)]) (rest := [.int z]) ⟨hx, hb, hml, hown, hts⟩ hE h0 hS (c_X1_tokensIn l G (vk b (sl i)) (txt i) (tk (txt i)) t (by omega) H0 hM_i) (cwV 1 hts gX2_token_X1_tokensIn rfl rfl rfl (by decide +kernel) ⟨Nat.le_of_ble_eq_true rfl, Nat.le_of_ble_eq_true rfl⟩) (hM_i.recv hK) (by omega) rfl rfl hl.1 rfl (lv_room (Nat.le_of_ble_eq_true rfl)) dX2_token_19 ⟨by first | exact Nat.le_of_ble_eq_true rfl | omega, by first | exact Nat.le_of_ble_eq_true rfl | omega⟩) hS (by omega) (fun _ _ _ _ _ h => h.elim) (fun locs hq hS => ?_)
    have h60 := hM_i.2.2.2.2 t (by omega)
    refine lv_icmp_lt (tgt := 35) hx hb dX2_token_22 (by decide) (fun c22 => ?_) (fun c22 => ?_)
    · obtain ⟨k, hk, rfl⟩ := (okN_iff (by omega)).mpr ⟨c12, c22⟩
      refine lv_aload hx hb dX2_token_35 (lv_at hl 0 rfl) ?_
      refine lv_iload_n hx hb dX2_token_37 rfl (lv_at hl 3 rfl) ?_
      refine lv_iload_n hx hb dX2_token_38 rfl (lv_at hl 4 rfl) ?_
      refine x_goI_ro (x_runV (As := [.int (nI t), .int (nI k)]) (rest := []) ⟨hx, hb, hml, hown, hts⟩ hE h0 hS (c_X1_sizeAt l G (vk b (sl i)) (txt i) (tk (txt i)) t k (by omega) (by omega) H0 hM_i) (cwV 2 hts gX2_token_X1_sizeAt rfl rfl rfl (by decide +kernel) ⟨Nat.le_of_ble_eq_true rfl, Nat.le_of_ble_eq_true rfl⟩) (hM_i.recv hK) (by omega) rfl rfl hl.1 rfl (lv_room (Nat.le_of_ble_eq_true rfl)) dX2_token_39 ⟨by first | exact Nat.le_of_ble_eq_true rfl | omega, by first | exact Nat.le_of_ble_eq_true rfl | omega⟩) hS (by omega) (fun _ _ _ _ _ h => h.elim) (fun locs hq hS => ?_)
      exact x_iret hx hb hr hlocks h0 hS (by omega) (by omega) dX2_token_42 (⟨rfl, by rw [ix_N (by omega), ix_N (by omega), ix_N (by omega)], ⟨i, hi, rfl⟩, ⟨t, ht, rfl⟩, by rw [ix_N (by omega), ix_N (by omega)]; exact ⟨k, hk, rfl⟩⟩)
    · exact x_throw (cls := xIO) (text := "the row has no such place") hx hb hE h0 hS hown hlocks hout (by rw [hml]; exact hl.1) (by decide) hw0 hw1 ot_IO (by decide +kernel) nb_IO (fun w h => by first | exact hts w (List.mem_cons_of_mem _ (List.mem_append_right _ h)) | exact hts w (List.mem_cons_of_mem _ (List.mem_append_left _ (List.mem_append_right _ h))) | exact hts w (List.mem_cons_of_mem _ (List.mem_append_left _ (List.mem_append_left _ (List.mem_append_right _ h))))) dX2_token_25 dX2_token_28 dX2_token_29 dX2_token_31 dX2_token_34 (Nat.le_of_ble_eq_true rfl) (Nat.le_of_ble_eq_true rfl) (Nat.le_of_ble_eq_true rfl) (Nat.le_of_ble_eq_true rfl) (by omega) (by omega) (fun H1 hF => Or.inr (Or.inr ⟨rfl, ⟨i, hi, rfl⟩, ⟨t, ht, rfl⟩, by rw [ix_N (by omega), ix_N (by omega)]; exact fun h => by first | (have h6 := hM_i.2.2.2.2 t (by omega); have h2 := (okN_iff (by omega)).mp h; first | exact h2.1 c12 | exact c22 h2.2)⟩))

abbrev RMX2_compare : Room := { frames := 8, cells := 2, slots := 12, locals := 141 }
set_option maxHeartbeats 4000000 in
set_option maxRecDepth 100000 in
theorem c_X2_compare (l : Launch) (G : gG) (b : Nat) (L : List Nat) (txt : Nat → List Nat) (x y : Int32) (H0 : Heap) (hXW : XW G b L txt H0) : XM l yX2_compare wsX2_compare RMX2_compare G [.ref b, .int x, .int y] H0 0 0 2 12 (roI H0 (ordr (txt (ix x)) (txt (ix y))) (okN 8 x ∧ okN 8 y)) (fun E _ => E = xIO ∧ ¬ (okN 8 x ∧ okN 8 y)) := by
  refine x_ofW (cc := cX2_compare) (maxL := 3) (ret := (some .int)) (by decide) rfl (Nat.le_of_ble_eq_true rfl) ?_
  intro p e s m below meth c hx hb hr hml hown hts hlocks hout hin2 h0 hE ls hl
  replace hown : s.vm.findClass RX2 = some m.cls := hown
  have hK := hE.1
  have hS : va_S (gA 0 0 H0.size) H0 H0 [] := va_S.rf
  generalize hargs : ([.ref b, .int x, .int y] : List Value).toArray = args at hts ⊢
  have hl : lv_has ls 3 [(0, .ref b), (1, .int x), (2, .int y)] := hl
  obtain ⟨sl, sp, P0, hB, hVo⟩ := hXW
  have hrg := hB.rng
  have hO := hB.O
  have hT := hB.T
  obtain ⟨f3, hSl, hsl⟩ := hB.2.2.1
  have hTn := hT.le
  have hOs := hVo.1.1
  have hVt := hVo.2.1
  refine lv_aload_n hx hb dX2_compare_0 rfl (lv_at hl 0 rfl) ?_
  refine lv_iload_n hx hb dX2_compare_1 rfl (lv_at hl 1 rfl) ?_
  refine x_goR_ro (x_runV (As := [.int x]) (rest := []) ⟨hx, hb, hml, hown, hts⟩ hE h0 hS (c_X2_versionIn l G b L txt sl sp x H0 hB) (cwV 1 hts gX2_compare_X2_versionIn rfl rfl rfl (by decide +kernel) ⟨Nat.le_of_ble_eq_true rfl, Nat.le_of_ble_eq_true rfl⟩) (hB.recv hK) (by omega) rfl rfl hl.1 rfl (lv_room (Nat.le_of_ble_eq_true rfl)) dX2_compare_2 ⟨by first | exact Nat.le_of_ble_eq_true rfl | omega, by first | exact Nat.le_of_ble_eq_true rfl | omega⟩) hS (by omega) (fun E ce q9 H1 locs1 hXx hFx hSx hce hcv hcl => x_thru hout hlocks h0 hSx hce hcv hcl (⟨hXx.1, fun h => hXx.2 h.1⟩) (by omega) (by omega)) (fun locs hq hS => ?_)
  obtain ⟨i, hi, rfl⟩ := hq
  refine x_rwr (z := vk b (sl i)) (by rw [ix_N (by omega)]) ?_
  have hM_i := hB.V (i := i) (by omega)
  have hO_i := hM_i.1.1
  have hMt_i := hM_i.2.1
  have hMn_i := hMt_i.le
  have hdis_i := hB.dis (i := i) (by omega)
  have gM_i := hB.g (i := i) (by omega)
  have hri_i := hB.rngi (i := i) (by omega)
  refine lv_aload_n hx hb dX2_compare_5 rfl (lv_at hl 0 rfl) ?_
  refine lv_iload_n hx hb dX2_compare_6 rfl (lv_at hl 2 rfl) ?_
  refine x_goR_ro (x_runV (As := [.int y]) (rest := [.ref (vk b (sl i))]) ⟨hx, hb, hml, hown, hts⟩ hE h0 hS (c_X2_versionIn l G b L txt sl sp y H0 hB) (cwV 1 hts gX2_compare_X2_versionIn rfl rfl rfl (by decide +kernel) ⟨Nat.le_of_ble_eq_true rfl, Nat.le_of_ble_eq_true rfl⟩) (hB.recv hK) (by omega) rfl rfl hl.1 rfl (lv_room (Nat.le_of_ble_eq_true rfl)) dX2_compare_7 ⟨by first | exact Nat.le_of_ble_eq_true rfl | omega, by first | exact Nat.le_of_ble_eq_true rfl | omega⟩) hS (by omega) (fun E ce q9 H1 locs1 hXx hFx hSx hce hcv hcl => x_thru hout hlocks h0 hSx hce hcv hcl (⟨hXx.1, fun h => hXx.2 h.2⟩) (by omega) (by omega)) (fun locs hq hS => ?_)
  obtain ⟨j, hj, rfl⟩ := hq
  refine x_rwr (z := vk b (sl j)) (by rw [ix_N (by omega)]) ?_
  have hM_j := hB.V (i := j) (by omega)
  have hO_j := hM_j.1.1
  have hMt_j := hM_j.2.1
  have hMn_j := hMt_j.le
  have hdis_j := hB.dis (i := j) (by omega)
  have gM_j := hB.g (i := j) (by omega)
  have hri_j := hB.rngi (i := j) (by omega)
  refine x_goI_ro (x_runV (As := [.ref (vk b (sl j))]) (rest := []) ⟨hx, hb, hml, hown, hts⟩ hE h0 hS (c_X1_orderTo l G (vk b (sl i)) (vk b (sl j)) (txt i) (txt j) (tk (txt i)) (tk (txt j)) gM_i.J gM_j.J H0 hM_i hM_j) (cwV 1 hts gX2_compare_X1_orderTo rfl rfl rfl (by decide +kernel) ⟨Nat.le_of_ble_eq_true rfl, Nat.le_of_ble_eq_true rfl⟩) (hM_i.recv hK) (by omega) rfl rfl hl.1 rfl (lv_room (Nat.le_of_ble_eq_true rfl)) dX2_compare_10 ⟨by first | exact Nat.le_of_ble_eq_true rfl | omega, by first | exact Nat.le_of_ble_eq_true rfl | omega⟩) hS (by omega) (fun _ _ _ _ _ h => h.elim) (fun locs hq hS => ?_)
  refine x_rw (z := ordr (txt i) (txt j)) rfl ?_
  exact x_iret hx hb hr hlocks h0 hS (by omega) (by omega) dX2_compare_13 (⟨rfl, by rw [ix_N (by omega), ix_N (by omega)], ⟨i, hi, rfl⟩, j, hj, rfl⟩)

abbrev RMX2_isSame : Room := { frames := 8, cells := 2, slots := 12, locals := 141 }
set_option maxHeartbeats 4000000 in
set_option maxRecDepth 100000 in
theorem c_X2_isSame (l : Launch) (G : gG) (b : Nat) (L : List Nat) (txt : Nat → List Nat) (x y : Int32) (H0 : Heap) (hXW : XW G b L txt H0) : XM l yX2_isSame wsX2_isSame RMX2_isSame G [.ref b, .int x, .int y] H0 0 0 2 12 (roI H0 (bI (decide (ordr (txt (ix x)) (txt (ix y)) = 0))) (okN 8 x ∧ okN 8 y)) (fun E _ => E = xIO ∧ ¬ (okN 8 x ∧ okN 8 y)) := by
  refine x_ofW (cc := cX2_isSame) (maxL := 3) (ret := (some .boolean)) (by decide) rfl (Nat.le_of_ble_eq_true rfl) ?_
  intro p e s m below meth c hx hb hr hml hown hts hlocks hout hin2 h0 hE ls hl
  replace hown : s.vm.findClass RX2 = some m.cls := hown
  have hK := hE.1
  have hS : va_S (gA 0 0 H0.size) H0 H0 [] := va_S.rf
  generalize hargs : ([.ref b, .int x, .int y] : List Value).toArray = args at hts ⊢
  have hl : lv_has ls 3 [(0, .ref b), (1, .int x), (2, .int y)] := hl
  obtain ⟨sl, sp, P0, hB, hVo⟩ := hXW
  have hrg := hB.rng
  have hO := hB.O
  have hT := hB.T
  obtain ⟨f3, hSl, hsl⟩ := hB.2.2.1
  have hTn := hT.le
  have hOs := hVo.1.1
  have hVt := hVo.2.1
  refine lv_aload_n hx hb dX2_isSame_0 rfl (lv_at hl 0 rfl) ?_
  refine lv_iload_n hx hb dX2_isSame_1 rfl (lv_at hl 1 rfl) ?_
  refine x_goR_ro (x_runV (As := [.int x]) (rest := []) ⟨hx, hb, hml, hown, hts⟩ hE h0 hS (c_X2_versionIn l G b L txt sl sp x H0 hB) (cwV 1 hts gX2_isSame_X2_versionIn rfl rfl rfl (by decide +kernel) ⟨Nat.le_of_ble_eq_true rfl, Nat.le_of_ble_eq_true rfl⟩) (hB.recv hK) (by omega) rfl rfl hl.1 rfl (lv_room (Nat.le_of_ble_eq_true rfl)) dX2_isSame_2 ⟨by first | exact Nat.le_of_ble_eq_true rfl | omega, by first | exact Nat.le_of_ble_eq_true rfl | omega⟩) hS (by omega) (fun E ce q9 H1 locs1 hXx hFx hSx hce hcv hcl => x_thru hout hlocks h0 hSx hce hcv hcl (⟨hXx.1, fun h => hXx.2 h.1⟩) (by omega) (by omega)) (fun locs hq hS => ?_)
  obtain ⟨i, hi, rfl⟩ := hq
  refine x_rwr (z := vk b (sl i)) (by rw [ix_N (by omega)]) ?_
  have hM_i := hB.V (i := i) (by omega)
  have hO_i := hM_i.1.1
  have hMt_i := hM_i.2.1
  have hMn_i := hMt_i.le
  have hdis_i := hB.dis (i := i) (by omega)
  have gM_i := hB.g (i := i) (by omega)
  have hri_i := hB.rngi (i := i) (by omega)
  refine lv_aload_n hx hb dX2_isSame_5 rfl (lv_at hl 0 rfl) ?_
  refine lv_iload_n hx hb dX2_isSame_6 rfl (lv_at hl 2 rfl) ?_
  refine x_goR_ro (x_runV (As := [.int y]) (rest := [.ref (vk b (sl i))]) ⟨hx, hb, hml, hown, hts⟩ hE h0 hS (c_X2_versionIn l G b L txt sl sp y H0 hB) (cwV 1 hts gX2_isSame_X2_versionIn rfl rfl rfl (by decide +kernel) ⟨Nat.le_of_ble_eq_true rfl, Nat.le_of_ble_eq_true rfl⟩) (hB.recv hK) (by omega) rfl rfl hl.1 rfl (lv_room (Nat.le_of_ble_eq_true rfl)) dX2_isSame_7 ⟨by first | exact Nat.le_of_ble_eq_true rfl | omega, by first | exact Nat.le_of_ble_eq_true rfl | omega⟩) hS (by omega) (fun E ce q9 H1 locs1 hXx hFx hSx hce hcv hcl => x_thru hout hlocks h0 hSx hce hcv hcl (⟨hXx.1, fun h => hXx.2 h.2⟩) (by omega) (by omega)) (fun locs hq hS => ?_)
  obtain ⟨j, hj, rfl⟩ := hq
  refine x_rwr (z := vk b (sl j)) (by rw [ix_N (by omega)]) ?_
  have hM_j := hB.V (i := j) (by omega)
  have hO_j := hM_j.1.1
  have hMt_j := hM_j.2.1
  have hMn_j := hMt_j.le
  have hdis_j := hB.dis (i := j) (by omega)
  have gM_j := hB.g (i := j) (by omega)
  have hri_j := hB.rngi (i := j) (by omega)
  refine x_goI_ro (x_runV (As := [.ref (vk b (sl j))]) (rest := []) ⟨hx, hb, hml, hown, hts⟩ hE h0 hS (c_X1_orderTo l G (vk b (sl i)) (vk b (sl j)) (txt i) (txt j) (tk (txt i)) (tk (txt j)) gM_i.J gM_j.J H0 hM_i hM_j) (cwV 1 hts gX2_isSame_X1_orderTo rfl rfl rfl (by decide +kernel) ⟨Nat.le_of_ble_eq_true rfl, Nat.le_of_ble_eq_true rfl⟩) (hM_i.recv hK) (by omega) rfl rfl hl.1 rfl (lv_room (Nat.le_of_ble_eq_true rfl)) dX2_isSame_10 ⟨by first | exact Nat.le_of_ble_eq_true rfl | omega, by first | exact Nat.le_of_ble_eq_true rfl | omega⟩) hS (by omega) (fun _ _ _ _ _ h => h.elim) (fun locs hq hS => ?_)
  refine x_rw (z := ordr (txt i) (txt j)) rfl ?_
  refine lv_if_ne (tgt := 20) hx hb dX2_isSame_13 (by decide) (fun c13 => ?_) (fun c13 => ?_)
  · refine lv_iconst (v := nI 0) hx hb dX2_isSame_20 (by decide) ?_
    exact x_zret hx hb hr hlocks h0 hS (by omega) (by omega) dX2_isSame_21 (by first | rfl | exact bI_nar _) (⟨rfl, by rw [ix_N (by omega), ix_N (by omega), decide_eq_false c13]; rfl, ⟨i, hi, rfl⟩, j, hj, rfl⟩)
  · refine lv_iconst (v := nI 1) hx hb dX2_isSame_16 (by decide) ?_
    refine lv_goto (tgt := 21) hx hb dX2_isSame_17 (by decide) ?_
    exact x_zret hx hb hr hlocks h0 hS (by omega) (by omega) dX2_isSame_21 (by first | rfl | exact bI_nar _) (⟨rfl, by rw [ix_N (by omega), ix_N (by omega), decide_eq_true c13]; rfl, ⟨i, hi, rfl⟩, j, hj, rfl⟩)

abbrev RMX2_apart : Room := { frames := 8, cells := 2, slots := 12, locals := 141 }
set_option maxHeartbeats 4000000 in
set_option maxRecDepth 100000 in
theorem c_X2_apart (l : Launch) (G : gG) (b : Nat) (L : List Nat) (txt : Nat → List Nat) (x y : Int32) (H0 : Heap) (hXW : XW G b L txt H0) : XM l yX2_apart wsX2_apart RMX2_apart G [.ref b, .int x, .int y] H0 0 0 2 12 (roI H0 (tellr (txt (ix x)) (txt (ix y))) (okN 8 x ∧ okN 8 y)) (fun E _ => E = xIO ∧ ¬ (okN 8 x ∧ okN 8 y)) := by
  refine x_ofW (cc := cX2_apart) (maxL := 3) (ret := (some .int)) (by decide) rfl (Nat.le_of_ble_eq_true rfl) ?_
  intro p e s m below meth c hx hb hr hml hown hts hlocks hout hin2 h0 hE ls hl
  replace hown : s.vm.findClass RX2 = some m.cls := hown
  have hK := hE.1
  have hS : va_S (gA 0 0 H0.size) H0 H0 [] := va_S.rf
  generalize hargs : ([.ref b, .int x, .int y] : List Value).toArray = args at hts ⊢
  have hl : lv_has ls 3 [(0, .ref b), (1, .int x), (2, .int y)] := hl
  obtain ⟨sl, sp, P0, hB, hVo⟩ := hXW
  have hrg := hB.rng
  have hO := hB.O
  have hT := hB.T
  obtain ⟨f3, hSl, hsl⟩ := hB.2.2.1
  have hTn := hT.le
  have hOs := hVo.1.1
  have hVt := hVo.2.1
  refine lv_aload_n hx hb dX2_apart_0 rfl (lv_at hl 0 rfl) ?_
  refine lv_iload_n hx hb dX2_apart_1 rfl (lv_at hl 1 rfl) ?_
  refine x_goR_ro (x_runV (As := [.int x]) (rest := []) ⟨hx, hb, hml, hown, hts⟩ hE h0 hS (c_X2_versionIn l G b L txt sl sp x H0 hB) (cwV 1 hts gX2_apart_X2_versionIn rfl rfl rfl (by decide +kernel) ⟨Nat.le_of_ble_eq_true rfl, Nat.le_of_ble_eq_true rfl⟩) (hB.recv hK) (by omega) rfl rfl hl.1 rfl (lv_room (Nat.le_of_ble_eq_true rfl)) dX2_apart_2 ⟨by first | exact Nat.le_of_ble_eq_true rfl | omega, by first | exact Nat.le_of_ble_eq_true rfl | omega⟩) hS (by omega) (fun E ce q9 H1 locs1 hXx hFx hSx hce hcv hcl => x_thru hout hlocks h0 hSx hce hcv hcl (⟨hXx.1, fun h => hXx.2 h.1⟩) (by omega) (by omega)) (fun locs hq hS => ?_)
  obtain ⟨i, hi, rfl⟩ := hq
  refine x_rwr (z := vk b (sl i)) (by rw [ix_N (by omega)]) ?_
  have hM_i := hB.V (i := i) (by omega)
  have hO_i := hM_i.1.1
  have hMt_i := hM_i.2.1
  have hMn_i := hMt_i.le
  have hdis_i := hB.dis (i := i) (by omega)
  have gM_i := hB.g (i := i) (by omega)
  have hri_i := hB.rngi (i := i) (by omega)
  refine lv_aload_n hx hb dX2_apart_5 rfl (lv_at hl 0 rfl) ?_
  refine lv_iload_n hx hb dX2_apart_6 rfl (lv_at hl 2 rfl) ?_
  refine x_goR_ro (x_runV (As := [.int y]) (rest := [.ref (vk b (sl i))]) ⟨hx, hb, hml, hown, hts⟩ hE h0 hS (c_X2_versionIn l G b L txt sl sp y H0 hB) (cwV 1 hts gX2_apart_X2_versionIn rfl rfl rfl (by decide +kernel) ⟨Nat.le_of_ble_eq_true rfl, Nat.le_of_ble_eq_true rfl⟩) (hB.recv hK) (by omega) rfl rfl hl.1 rfl (lv_room (Nat.le_of_ble_eq_true rfl)) dX2_apart_7 ⟨by first | exact Nat.le_of_ble_eq_true rfl | omega, by first | exact Nat.le_of_ble_eq_true rfl | omega⟩) hS (by omega) (fun E ce q9 H1 locs1 hXx hFx hSx hce hcv hcl => x_thru hout hlocks h0 hSx hce hcv hcl (⟨hXx.1, fun h => hXx.2 h.2⟩) (by omega) (by omega)) (fun locs hq hS => ?_)
  obtain ⟨j, hj, rfl⟩ := hq
  refine x_rwr (z := vk b (sl j)) (by rw [ix_N (by omega)]) ?_
  have hM_j := hB.V (i := j) (by omega)
  have hO_j := hM_j.1.1
  have hMt_j := hM_j.2.1
  have hMn_j := hMt_j.le
  have hdis_j := hB.dis (i := j) (by omega)
  have gM_j := hB.g (i := j) (by omega)
  have hri_j := hB.rngi (i := j) (by omega)
  refine x_goI_ro (x_runV (As := [.ref (vk b (sl j))]) (rest := []) ⟨hx, hb, hml, hown, hts⟩ hE h0 hS (c_X1_tellingRow l G (vk b (sl i)) (vk b (sl j)) (txt i) (txt j) (tk (txt i)) (tk (txt j)) gM_i.J gM_j.J H0 hM_i hM_j) (cwV 1 hts gX2_apart_X1_tellingRow rfl rfl rfl (by decide +kernel) ⟨Nat.le_of_ble_eq_true rfl, Nat.le_of_ble_eq_true rfl⟩) (hM_i.recv hK) (by omega) rfl rfl hl.1 rfl (lv_room (Nat.le_of_ble_eq_true rfl)) dX2_apart_10 ⟨by first | exact Nat.le_of_ble_eq_true rfl | omega, by first | exact Nat.le_of_ble_eq_true rfl | omega⟩) hS (by omega) (fun _ _ _ _ _ h => h.elim) (fun locs hq hS => ?_)
  refine x_rw (z := tellr (txt i) (txt j)) rfl ?_
  exact x_iret hx hb hr hlocks h0 hS (by omega) (by omega) dX2_apart_13 (⟨rfl, by rw [ix_N (by omega), ix_N (by omega)], ⟨i, hi, rfl⟩, j, hj, rfl⟩)

abbrev RMX2_rank : Room := { frames := 8, cells := 1, slots := 6, locals := 141 }
set_option maxHeartbeats 4000000 in
set_option maxRecDepth 100000 in
theorem c_X2_rank (l : Launch) (G : gG) (b : Nat) (L : List Nat) (txt : Nat → List Nat) (x : Int32) (H0 : Heap) (hXW : XW G b L txt H0) : XM l yX2_rank wsX2_rank RMX2_rank G [.ref b, .int x] H0 0 0 1 6 (roI H0 (nI (cntB (fun j => decide (ordr (txt j) (txt (ix x)) < 0)) 8)) (okN 8 x)) (fun E _ => E = xIO ∧ ¬ okN 8 x) := by
  refine x_ofW (cc := cX2_rank) (maxL := 5) (ret := (some .int)) (by decide) rfl (Nat.le_of_ble_eq_true rfl) ?_
  intro p e s m below meth c hx hb hr hml hown hts hlocks hout hin2 h0 hE ls hl
  replace hown : s.vm.findClass RX2 = some m.cls := hown
  have hK := hE.1
  have hS : va_S (gA 0 0 H0.size) H0 H0 [] := va_S.rf
  generalize hargs : ([.ref b, .int x] : List Value).toArray = args at hts ⊢
  have hw0 := hts (.fieldLink RX2 18 "Releaseledger" "slots" "[LReleaseledger$Version;") (by decide +kernel)
  have hw1 : ∀ w ∈ u_ws RX2 TX2 6, w ∈ wsX2_rank := by decide +kernel
  have hl : lv_has ls 5 [(0, .ref b), (1, .int x)] := hl
  obtain ⟨sl, sp, P0, hB, hVo⟩ := hXW
  have hrg := hB.rng
  have hO := hB.O
  have hT := hB.T
  obtain ⟨f3, hSl, hsl⟩ := hB.2.2.1
  have hTn := hT.le
  have hOs := hVo.1.1
  have hVt := hVo.2.1
  refine lv_aload_n hx hb dX2_rank_0 rfl (lv_at hl 0 rfl) ?_
  refine lv_iload_n hx hb dX2_rank_1 rfl (lv_at hl 1 rfl) ?_
  refine x_goR_ro (x_runV (As := [.int x]) (rest := []) ⟨hx, hb, hml, hown, hts⟩ hE h0 hS (c_X2_versionIn l G b L txt sl sp x H0 hB) (cwV 1 hts gX2_rank_X2_versionIn rfl rfl rfl (by decide +kernel) ⟨Nat.le_of_ble_eq_true rfl, Nat.le_of_ble_eq_true rfl⟩) (hB.recv hK) (by omega) rfl rfl hl.1 rfl (lv_room (Nat.le_of_ble_eq_true rfl)) dX2_rank_2 ⟨by first | exact Nat.le_of_ble_eq_true rfl | omega, by first | exact Nat.le_of_ble_eq_true rfl | omega⟩) hS (by omega) (fun E ce q9 H1 locs1 hXx hFx hSx hce hcv hcl => x_thru hout hlocks h0 hSx hce hcv hcl (hXx) (by omega) (by omega)) (fun locs hq hS => ?_)
  obtain ⟨i, hi, rfl⟩ := hq
  refine x_rwr (z := vk b (sl i)) (by rw [ix_N (by omega)]) ?_
  have hM_i := hB.V (i := i) (by omega)
  have hO_i := hM_i.1.1
  have hMt_i := hM_i.2.1
  have hMn_i := hMt_i.le
  have hdis_i := hB.dis (i := i) (by omega)
  have gM_i := hB.g (i := i) (by omega)
  have hri_i := hB.rngi (i := i) (by omega)
  refine lv_astore_n (lv' := [(2, .ref (vk b (sl i))), (0, .ref b), (1, .int (nI i))]) hx hb dX2_rank_5 rfl hl (by decide) rfl (fun ls hl => ?_)
  refine lv_iconst (v := nI 0) hx hb dX2_rank_6 (by decide) ?_
  refine lv_istore_n (lv' := [(3, .int (nI 0)), (2, .ref (vk b (sl i))), (0, .ref b), (1, .int (nI i))]) hx hb dX2_rank_7 rfl hl (by decide) rfl (fun ls hl => ?_)
  refine lv_iconst (v := nI 0) hx hb dX2_rank_8 (by decide) ?_
  refine lv_istore (lv' := [(4, .int (nI 0)), (3, .int (nI 0)), (2, .ref (vk b (sl i))), (0, .ref b), (1, .int (nI i))]) hx hb dX2_rank_9 hl (by decide) rfl (fun ls hl => ?_)
  have loop11 : ∀ (fu : Nat) (k j : Nat) (hk : k = cntB (fun j => decide (ordr (txt j) (txt i) < 0)) j) (hj : j ≤ 8) (locs : List Loc) (hS : va_S (gA 0 0 H0.size) H0 H0 locs) (ls : Array Slot), 8 - j < fu → lv_has ls 5 [(4, .int (nI j)), (3, .int (nI k)), (2, .ref (vk b (sl i))), (1, .int (nI i)), (0, .ref b)] → W p l e RMX2_rank s m args below meth c H0 locs (0 + 1) (0 + 6) (XQ below args s H0 0 0 1 6 (roI H0 (nI (cntB (fun j => decide (ordr (txt j) (txt (ix (nI i))) < 0)) 8)) (okN 8 (nI i))) (fun E _ => E = xIO ∧ ¬ okN 8 (nI i))) (F0 m 11 ls []) := by
    intro fu11
    induction fu11 with
    | zero => intro k j hk hj locs hS  ls hmu; exact absurd hmu (Nat.not_lt_zero _)
    | succ fu11 ih11 =>
      intro k j hk hj locs hS  ls hmu11 hl
      refine lv_iload hx hb dX2_rank_11 (lv_at hl 0 rfl) ?_
      refine lv_bipush (v := nI 8) hx hb dX2_rank_13 (by decide) ?_
      refine x_icmp_ge (tgt := 41) hx hb (by omega) (by omega) dX2_rank_15 (by decide) (fun c15 => ?_) (fun c15 => ?_)
      · refine lv_iload_n hx hb dX2_rank_41 rfl (lv_at hl 1 rfl) ?_
        exact x_iret hx hb hr hlocks h0 hS (by omega) (by omega) dX2_rank_42 (⟨rfl, by rw [ix_N (by omega), hk, show j = 8 by omega], i, hi, rfl⟩)
      · have hM_j := hB.V (i := j) (by omega)
        have gM_j := hB.g (i := j) (by omega)
        refine lv_aload_n hx hb dX2_rank_18 rfl (lv_at hl 4 rfl) ?_
        refine x_get (ci := 2) hx hb hts hown hK rfl hw1 1 (by decide) hw0 hO rfl dX2_rank_19 ?_
        refine lv_iload hx hb dX2_rank_22 (lv_at hl 0 rfl) ?_
        refine x_aald (k := 2) (v := (vk b (sl j))) hx hb hK (by decide) rfl hSl (by omega) (by decide) (hsl _ (by omega)) dX2_rank_24 ?_
        refine lv_aload_n hx hb dX2_rank_25 rfl (lv_at hl 2 rfl) ?_
        refine x_goI_ro (x_runV (As := [.ref (vk b (sl i))]) (rest := []) ⟨hx, hb, hml, hown, hts⟩ hE h0 hS (c_X1_orderTo l G (vk b (sl j)) (vk b (sl i)) (txt j) (txt i) (tk (txt j)) (tk (txt i)) gM_j.J gM_i.J H0 hM_j hM_i) (cwV 1 hts gX2_rank_X1_orderTo rfl rfl rfl (by decide +kernel) ⟨Nat.le_of_ble_eq_true rfl, Nat.le_of_ble_eq_true rfl⟩) (hM_j.recv hK) (by omega) rfl rfl hl.1 rfl (lv_room (Nat.le_of_ble_eq_true rfl)) dX2_rank_26 ⟨by first | exact Nat.le_of_ble_eq_true rfl | omega, by first | exact Nat.le_of_ble_eq_true rfl | omega⟩) hS (by omega) (fun _ _ _ _ _ h => h.elim) (fun locs hq hS => ?_)
        refine x_rw (z := ordr (txt j) (txt i)) rfl ?_
        refine lv_if_ge (tgt := 35) hx hb dX2_rank_29 (by decide) (fun c29 => ?_) (fun c29 => ?_)
        · have hk2 : k = cntB (fun j => decide (ordr (txt j) (txt i) < 0)) (j + 1) := by rw [cntB_f (by exact decide_eq_false (Int32.not_lt.mpr c29))]; exact hk
          refine lv_iinc (v := nI (j + 1)) (lv' := [(4, .int (nI (j + 1))), (3, .int (nI k)), (2, .ref (vk b (sl i))), (1, .int (nI i)), (0, .ref b)]) hx hb dX2_rank_35 hl (k := 0) rfl (nI_1 _) (by decide) rfl (fun ls hl => ?_)
          refine lv_goto (tgt := 11) hx hb dX2_rank_38 (by decide) ?_
          exact ih11 k (j + 1) hk2 (by omega) _ hS ls (by omega) (lv_sub hl [0, 1, 2, 3, 4] rfl)
        · have hk2 : k + 1 = cntB (fun j => decide (ordr (txt j) (txt i) < 0)) (j + 1) := by rw [cntB_t (by exact decide_eq_true (Int32.not_le.mp c29))]; rw [hk]
          refine lv_iinc (v := nI (k + 1)) (lv' := [(3, .int (nI (k + 1))), (4, .int (nI j)), (2, .ref (vk b (sl i))), (1, .int (nI i)), (0, .ref b)]) hx hb dX2_rank_32 hl (k := 1) rfl (nI_1 _) (by decide) rfl (fun ls hl => ?_)
          refine lv_iinc (v := nI (j + 1)) (lv' := [(4, .int (nI (j + 1))), (3, .int (nI (k + 1))), (2, .ref (vk b (sl i))), (1, .int (nI i)), (0, .ref b)]) hx hb dX2_rank_35 hl (k := 1) rfl (nI_1 _) (by decide) rfl (fun ls hl => ?_)
          refine lv_goto (tgt := 11) hx hb dX2_rank_38 (by decide) ?_
          exact ih11 (k + 1) (j + 1) hk2 (by omega) _ hS ls (by omega) (lv_sub hl [0, 1, 2, 3, 4] rfl)
  exact loop11 _ 0 0 rfl (by omega) _ hS ls (Nat.lt_succ_self _) (lv_sub hl [0, 1, 2, 4, 3] rfl)

abbrev RMX2_between : Room := { frames := 8, cells := 2, slots := 12, locals := 141 }
set_option maxHeartbeats 4000000 in
set_option maxRecDepth 100000 in
theorem c_X2_between (l : Launch) (G : gG) (b : Nat) (L : List Nat) (txt : Nat → List Nat) (x y : Int32) (H0 : Heap) (hXW : XW G b L txt H0) : XM l yX2_between wsX2_between RMX2_between G [.ref b, .int x, .int y] H0 0 0 2 12 (roI H0 (nI (cntB (fun j => decide (0 ≤ ordr (txt j) (txt (ix x))) && decide (ordr (txt j) (txt (ix y)) < 0)) 8)) (okN 8 x ∧ okN 8 y)) (fun E _ => E = xIO ∧ ¬ (okN 8 x ∧ okN 8 y)) := by
  refine x_ofW (cc := cX2_between) (maxL := 7) (ret := (some .int)) (by decide) rfl (Nat.le_of_ble_eq_true rfl) ?_
  intro p e s m below meth c hx hb hr hml hown hts hlocks hout hin2 h0 hE ls hl
  replace hown : s.vm.findClass RX2 = some m.cls := hown
  have hK := hE.1
  have hS : va_S (gA 0 0 H0.size) H0 H0 [] := va_S.rf
  generalize hargs : ([.ref b, .int x, .int y] : List Value).toArray = args at hts ⊢
  have hw0 := hts (.fieldLink RX2 18 "Releaseledger" "slots" "[LReleaseledger$Version;") (by decide +kernel)
  have hw1 : ∀ w ∈ u_ws RX2 TX2 6, w ∈ wsX2_between := by decide +kernel
  have hl : lv_has ls 7 [(0, .ref b), (1, .int x), (2, .int y)] := hl
  obtain ⟨sl, sp, P0, hB, hVo⟩ := hXW
  have hrg := hB.rng
  have hO := hB.O
  have hT := hB.T
  obtain ⟨f3, hSl, hsl⟩ := hB.2.2.1
  have hTn := hT.le
  have hOs := hVo.1.1
  have hVt := hVo.2.1
  refine lv_aload_n hx hb dX2_between_0 rfl (lv_at hl 0 rfl) ?_
  refine lv_iload_n hx hb dX2_between_1 rfl (lv_at hl 1 rfl) ?_
  refine x_goR_ro (x_runV (As := [.int x]) (rest := []) ⟨hx, hb, hml, hown, hts⟩ hE h0 hS (c_X2_versionIn l G b L txt sl sp x H0 hB) (cwV 1 hts gX2_between_X2_versionIn rfl rfl rfl (by decide +kernel) ⟨Nat.le_of_ble_eq_true rfl, Nat.le_of_ble_eq_true rfl⟩) (hB.recv hK) (by omega) rfl rfl hl.1 rfl (lv_room (Nat.le_of_ble_eq_true rfl)) dX2_between_2 ⟨by first | exact Nat.le_of_ble_eq_true rfl | omega, by first | exact Nat.le_of_ble_eq_true rfl | omega⟩) hS (by omega) (fun E ce q9 H1 locs1 hXx hFx hSx hce hcv hcl => x_thru hout hlocks h0 hSx hce hcv hcl (⟨hXx.1, fun h => hXx.2 h.1⟩) (by omega) (by omega)) (fun locs hq hS => ?_)
  obtain ⟨i, hi, rfl⟩ := hq
  refine x_rwr (z := vk b (sl i)) (by rw [ix_N (by omega)]) ?_
  have hM_i := hB.V (i := i) (by omega)
  have hO_i := hM_i.1.1
  have hMt_i := hM_i.2.1
  have hMn_i := hMt_i.le
  have hdis_i := hB.dis (i := i) (by omega)
  have gM_i := hB.g (i := i) (by omega)
  have hri_i := hB.rngi (i := i) (by omega)
  refine lv_astore_n (lv' := [(3, .ref (vk b (sl i))), (0, .ref b), (1, .int (nI i)), (2, .int y)]) hx hb dX2_between_5 rfl hl (by decide) rfl (fun ls hl => ?_)
  refine lv_aload_n hx hb dX2_between_6 rfl (lv_at hl 1 rfl) ?_
  refine lv_iload_n hx hb dX2_between_7 rfl (lv_at hl 3 rfl) ?_
  refine x_goR_ro (x_runV (As := [.int y]) (rest := []) ⟨hx, hb, hml, hown, hts⟩ hE h0 hS (c_X2_versionIn l G b L txt sl sp y H0 hB) (cwV 1 hts gX2_between_X2_versionIn rfl rfl rfl (by decide +kernel) ⟨Nat.le_of_ble_eq_true rfl, Nat.le_of_ble_eq_true rfl⟩) (hB.recv hK) (by omega) rfl rfl hl.1 rfl (lv_room (Nat.le_of_ble_eq_true rfl)) dX2_between_8 ⟨by first | exact Nat.le_of_ble_eq_true rfl | omega, by first | exact Nat.le_of_ble_eq_true rfl | omega⟩) hS (by omega) (fun E ce q9 H1 locs1 hXx hFx hSx hce hcv hcl => x_thru hout hlocks h0 hSx hce hcv hcl (⟨hXx.1, fun h => hXx.2 h.2⟩) (by omega) (by omega)) (fun locs hq hS => ?_)
  obtain ⟨u, hu, rfl⟩ := hq
  refine x_rwr (z := vk b (sl u)) (by rw [ix_N (by omega)]) ?_
  have hM_u := hB.V (i := u) (by omega)
  have hO_u := hM_u.1.1
  have hMt_u := hM_u.2.1
  have hMn_u := hMt_u.le
  have hdis_u := hB.dis (i := u) (by omega)
  have gM_u := hB.g (i := u) (by omega)
  have hri_u := hB.rngi (i := u) (by omega)
  refine lv_astore (lv' := [(4, .ref (vk b (sl u))), (3, .ref (vk b (sl i))), (0, .ref b), (1, .int (nI i)), (2, .int (nI u))]) hx hb dX2_between_11 hl (by decide) rfl (fun ls hl => ?_)
  refine lv_iconst (v := nI 0) hx hb dX2_between_13 (by decide) ?_
  refine lv_istore (lv' := [(5, .int (nI 0)), (4, .ref (vk b (sl u))), (3, .ref (vk b (sl i))), (0, .ref b), (1, .int (nI i)), (2, .int (nI u))]) hx hb dX2_between_14 hl (by decide) rfl (fun ls hl => ?_)
  refine lv_iconst (v := nI 0) hx hb dX2_between_16 (by decide) ?_
  refine lv_istore (lv' := [(6, .int (nI 0)), (5, .int (nI 0)), (4, .ref (vk b (sl u))), (3, .ref (vk b (sl i))), (0, .ref b), (1, .int (nI i)), (2, .int (nI u))]) hx hb dX2_between_17 hl (by decide) rfl (fun ls hl => ?_)
  have loop19 : ∀ (fu : Nat) (k j : Nat) (hk : k = cntB (fun j => decide (0 ≤ ordr (txt j) (txt i)) && decide (ordr (txt j) (txt u) < 0)) j) (hj : j ≤ 8) (locs : List Loc) (hS : va_S (gA 0 0 H0.size) H0 H0 locs) (ls : Array Slot), 8 - j < fu → lv_has ls 7 [(6, .int (nI j)), (5, .int (nI k)), (4, .ref (vk b (sl u))), (3, .ref (vk b (sl i))), (2, .int (nI u)), (1, .int (nI i)), (0, .ref b)] → W p l e RMX2_between s m args below meth c H0 locs (0 + 1 + 1) (0 + 6 + 6) (XQ below args s H0 0 0 2 12 (roI H0 (nI (cntB (fun j => decide (0 ≤ ordr (txt j) (txt (ix (nI i)))) && decide (ordr (txt j) (txt (ix (nI u))) < 0)) 8)) (okN 8 (nI i) ∧ okN 8 (nI u))) (fun E _ => E = xIO ∧ ¬ (okN 8 (nI i) ∧ okN 8 (nI u)))) (F0 m 19 ls []) := by
    intro fu19
    induction fu19 with
    | zero => intro k j hk hj locs hS  ls hmu; exact absurd hmu (Nat.not_lt_zero _)
    | succ fu19 ih19 =>
      intro k j hk hj locs hS  ls hmu19 hl
      refine lv_iload hx hb dX2_between_19 (lv_at hl 0 rfl) ?_
      refine lv_bipush (v := nI 8) hx hb dX2_between_21 (by decide) ?_
      refine x_icmp_ge (tgt := 64) hx hb (by omega) (by omega) dX2_between_23 (by decide) (fun c23 => ?_) (fun c23 => ?_)
      · refine lv_iload hx hb dX2_between_64 (lv_at hl 1 rfl) ?_
        exact x_iret hx hb hr hlocks h0 hS (by omega) (by omega) dX2_between_66 (⟨rfl, by rw [ix_N (by omega), ix_N (by omega), hk, show j = 8 by omega], ⟨i, hi, rfl⟩, u, hu, rfl⟩)
      · have hM_j := hB.V (i := j) (by omega)
        have gM_j := hB.g (i := j) (by omega)
        refine lv_aload_n hx hb dX2_between_26 rfl (lv_at hl 6 rfl) ?_
        refine x_get (ci := 2) hx hb hts hown hK rfl hw1 1 (by decide) hw0 hO rfl dX2_between_27 ?_
        refine lv_iload hx hb dX2_between_30 (lv_at hl 0 rfl) ?_
        refine x_aald (k := 2) (v := (vk b (sl j))) hx hb hK (by decide) rfl hSl (by omega) (by decide) (hsl _ (by omega)) dX2_between_32 ?_
        refine lv_aload_n hx hb dX2_between_33 rfl (lv_at hl 3 rfl) ?_
        refine x_goI_ro (x_runV (As := [.ref (vk b (sl i))]) (rest := []) ⟨hx, hb, hml, hown, hts⟩ hE h0 hS (c_X1_orderTo l G (vk b (sl j)) (vk b (sl i)) (txt j) (txt i) (tk (txt j)) (tk (txt i)) gM_j.J gM_i.J H0 hM_j hM_i) (cwV 1 hts gX2_between_X1_orderTo rfl rfl rfl (by decide +kernel) ⟨Nat.le_of_ble_eq_true rfl, Nat.le_of_ble_eq_true rfl⟩) (hM_j.recv hK) (by omega) rfl rfl hl.1 rfl (lv_room (Nat.le_of_ble_eq_true rfl)) dX2_between_34 ⟨by first | exact Nat.le_of_ble_eq_true rfl | omega, by first | exact Nat.le_of_ble_eq_true rfl | omega⟩) hS (by omega) (fun _ _ _ _ _ h => h.elim) (fun locs hq hS => ?_)
        refine x_rw (z := ordr (txt j) (txt i)) rfl ?_
        refine lv_if_lt (tgt := 58) hx hb dX2_between_37 (by decide) (fun c37 => ?_) (fun c37 => ?_)
        · have hk2 : k = cntB (fun j => decide (0 ≤ ordr (txt j) (txt i)) && decide (ordr (txt j) (txt u) < 0)) (j + 1) := by rw [cntB_f (by show (decide _ && _) = false; rw [decide_eq_false (Int32.not_le.mpr c37)]; rfl)]; exact hk
          refine lv_iinc (v := nI (j + 1)) (lv' := [(6, .int (nI (j + 1))), (5, .int (nI k)), (4, .ref (vk b (sl u))), (3, .ref (vk b (sl i))), (2, .int (nI u)), (1, .int (nI i)), (0, .ref b)]) hx hb dX2_between_58 hl (k := 0) rfl (nI_1 _) (by decide) rfl (fun ls hl => ?_)
          refine lv_goto (tgt := 19) hx hb dX2_between_61 (by decide) ?_
          exact ih19 k (j + 1) hk2 (by omega) _ hS ls (by omega) (lv_sub hl [0, 1, 2, 3, 4, 5, 6] rfl)
        · refine lv_aload_n hx hb dX2_between_40 rfl (lv_at hl 6 rfl) ?_
          refine x_get (ci := 2) hx hb hts hown hK rfl hw1 1 (by decide) hw0 hO rfl dX2_between_41 ?_
          refine lv_iload hx hb dX2_between_44 (lv_at hl 0 rfl) ?_
          refine x_aald (k := 2) (v := (vk b (sl j))) hx hb hK (by decide) rfl hSl (by omega) (by decide) (hsl _ (by omega)) dX2_between_46 ?_
          refine lv_aload hx hb dX2_between_47 (lv_at hl 2 rfl) ?_
          refine x_goI_ro (x_runV (As := [.ref (vk b (sl u))]) (rest := []) ⟨hx, hb, hml, hown, hts⟩ hE h0 hS (c_X1_orderTo l G (vk b (sl j)) (vk b (sl u)) (txt j) (txt u) (tk (txt j)) (tk (txt u)) gM_j.J gM_u.J H0 hM_j hM_u) (cwV 1 hts gX2_between_X1_orderTo rfl rfl rfl (by decide +kernel) ⟨Nat.le_of_ble_eq_true rfl, Nat.le_of_ble_eq_true rfl⟩) (hM_j.recv hK) (by omega) rfl rfl hl.1 rfl (lv_room (Nat.le_of_ble_eq_true rfl)) dX2_between_49 ⟨by first | exact Nat.le_of_ble_eq_true rfl | omega, by first | exact Nat.le_of_ble_eq_true rfl | omega⟩) hS (by omega) (fun _ _ _ _ _ h => h.elim) (fun locs hq hS => ?_)
          refine x_rw (z := ordr (txt j) (txt u)) rfl ?_
          refine lv_if_ge (tgt := 58) hx hb dX2_between_52 (by decide) (fun c52 => ?_) (fun c52 => ?_)
          · have hk2 : k = cntB (fun j => decide (0 ≤ ordr (txt j) (txt i)) && decide (ordr (txt j) (txt u) < 0)) (j + 1) := by rw [cntB_f (by show (_ && decide _) = false; rw [decide_eq_false (Int32.not_lt.mpr c52), Bool.and_false])]; exact hk
            refine lv_iinc (v := nI (j + 1)) (lv' := [(6, .int (nI (j + 1))), (5, .int (nI k)), (4, .ref (vk b (sl u))), (3, .ref (vk b (sl i))), (2, .int (nI u)), (1, .int (nI i)), (0, .ref b)]) hx hb dX2_between_58 hl (k := 0) rfl (nI_1 _) (by decide) rfl (fun ls hl => ?_)
            refine lv_goto (tgt := 19) hx hb dX2_between_61 (by decide) ?_
            exact ih19 k (j + 1) hk2 (by omega) _ hS ls (by omega) (lv_sub hl [0, 1, 2, 3, 4, 5, 6] rfl)
          · have hk2 : k + 1 = cntB (fun j => decide (0 ≤ ordr (txt j) (txt i)) && decide (ordr (txt j) (txt u) < 0)) (j + 1) := by rw [cntB_t (by show (decide _ && decide _) = true; rw [decide_eq_true (Int32.not_lt.mp c37), decide_eq_true (Int32.not_le.mp c52)]; rfl)]; rw [hk]
            refine lv_iinc (v := nI (k + 1)) (lv' := [(5, .int (nI (k + 1))), (6, .int (nI j)), (4, .ref (vk b (sl u))), (3, .ref (vk b (sl i))), (2, .int (nI u)), (1, .int (nI i)), (0, .ref b)]) hx hb dX2_between_55 hl (k := 1) rfl (nI_1 _) (by decide) rfl (fun ls hl => ?_)
            refine lv_iinc (v := nI (j + 1)) (lv' := [(6, .int (nI (j + 1))), (5, .int (nI (k + 1))), (4, .ref (vk b (sl u))), (3, .ref (vk b (sl i))), (2, .int (nI u)), (1, .int (nI i)), (0, .ref b)]) hx hb dX2_between_58 hl (k := 1) rfl (nI_1 _) (by decide) rfl (fun ls hl => ?_)
            refine lv_goto (tgt := 19) hx hb dX2_between_61 (by decide) ?_
            exact ih19 (k + 1) (j + 1) hk2 (by omega) _ hS ls (by omega) (lv_sub hl [0, 1, 2, 3, 4, 5, 6] rfl)
  exact loop19 _ 0 0 rfl (by omega) _ hS ls (Nat.lt_succ_self _) (lv_sub hl [0, 1, 2, 3, 6, 5, 4] rfl)
