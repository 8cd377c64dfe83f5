abbrev RMX2_isHashed : Room := { frames := 8, cells := 1, slots := 6, locals := 141 }
set_option maxHeartbeats 4000000 in
set_option maxRecDepth 100000 in
theorem c_X2_isHashed (l : Launch) (G : gG) (b : Nat) (L : List Nat) (txt : Nat → List Nat) (x : Int32) (H0 : Heap) (hXW : XW G b L txt H0) : XM l yX2_isHashed wsX2_isHashed RMX2_isHashed G [.ref b, .int x] H0 b (b + 115) 1 6 (qI (fun r H1 => okN 8 x ∧ r = bI true ∧ XW G b L txt H1)) (fun E H1 => E = xIO ∧ ¬ okN 8 x ∧ XW G b L txt H1) := by
  refine x_ofW (cc := cX2_isHashed) (maxL := 3) (ret := (some .boolean)) (by decide) rfl (Nat.le_of_ble_eq_true rfl) ?_
  intro p e s m below meth c hx hb hr hml hown hts hlocks hout hin2 h0 hE ls hl
  replace hown : s.vm.findClass RX2 = some m.cls := hown
  have hK := hE.1
  have hS : va_S (gA b (b + 115) H0.size) H0 H0 [] := va_S.rf
  generalize hargs : ([.ref b, .int x] : List Value).toArray = args at hts ⊢
  have hw0 := hts (.fieldLink RX2 33 "Releaseledger" "spare" "LReleaseledger$Version;") (by decide +kernel)
  have hw1 : ∀ w ∈ u_ws RX2 TX2 6, w ∈ wsX2_isHashed := by decide +kernel
  have hw2 : ∀ w ∈ u_ws RX1 TX1 4, w ∈ wsX2_isHashed := by decide +kernel
  have hl : lv_has ls 3 [(0, .ref b), (1, .int x)] := hl
  obtain ⟨sl, sp, P0, hB, hVo⟩ := hXW
  have hrg := hB.rng
  have hO := hB.O
  have hT := hB.T
  obtain ⟨f3, hSl, hsl⟩ := hB.2.2.1
  have hTn := hT.le
  have hOs := hVo.1.1
  have hVt := hVo.2.1
  refine lv_aload_n hx hb dX2_isHashed_0 rfl (lv_at hl 0 rfl) ?_
  refine lv_iload_n hx hb dX2_isHashed_1 rfl (lv_at hl 1 rfl) ?_
  refine x_goR_ro (x_runV (As := [.int x]) (rest := []) ⟨hx, hb, hml, hown, hts⟩ hE h0 hS (c_X2_versionIn l G b L txt sl sp x H0 hB) (cwV 1 hts gX2_isHashed_X2_versionIn rfl rfl rfl (by decide +kernel) ⟨Nat.le_of_ble_eq_true rfl, Nat.le_of_ble_eq_true rfl⟩) (hB.recv hK) (by omega) rfl rfl hl.1 rfl (lv_room (Nat.le_of_ble_eq_true rfl)) dX2_isHashed_2 ⟨by first | exact Nat.le_of_ble_eq_true rfl | omega, by first | exact Nat.le_of_ble_eq_true rfl | omega⟩) hS (by omega) (fun E ce q9 H1 locs1 hXx hFx hSx hce hcv hcl => x_thru hout hlocks h0 hSx hce hcv hcl (⟨hXx.1, hXx.2, (XW.mk' hB hVo).fr hFx (by omega)⟩) (by omega) (by omega)) (fun locs hq hS => ?_)
  obtain ⟨i, hi, rfl⟩ := hq
  refine x_rwr (z := vk b (sl i)) (by rw [ix_N (by omega)]) ?_
  have hM_i := hB.V (i := i) (by omega)
  have hO_i := hM_i.1.1
  have hMt_i := hM_i.2.1
  have hMn_i := hMt_i.le
  have hdis_i := hB.dis (i := i) (by omega)
  have gM_i := hB.g (i := i) (by omega)
  have hri_i := hB.rngi (i := i) (by omega)
  refine lv_astore_n (lv' := [(2, .ref (vk b (sl i))), (0, .ref b), (1, .int (nI i))]) hx hb dX2_isHashed_5 rfl hl (by decide) rfl (fun ls hl => ?_)
  refine lv_aload_n hx hb dX2_isHashed_6 rfl (lv_at hl 1 rfl) ?_
  refine lv_aload_n hx hb dX2_isHashed_7 rfl (lv_at hl 0 rfl) ?_
  refine x_goV (x_runV (As := [.ref (vk b (sl i))]) (rest := []) ⟨hx, hb, hml, hown, hts⟩ hE h0 hS (c_X2_parseAnew l G b L txt sl sp P0 i (by omega) H0 hB hVo) (cwV 1 hts gX2_isHashed_X2_parseAnew rfl rfl rfl (by decide +kernel) ⟨Nat.le_of_ble_eq_true rfl, Nat.le_of_ble_eq_true rfl⟩) (hB.recv hK) (by omega) rfl rfl hl.1 rfl (lv_room (Nat.le_of_ble_eq_true rfl)) dX2_isHashed_8 ⟨by first | exact Nat.le_of_ble_eq_true rfl | omega, by first | exact Nat.le_of_ble_eq_true rfl | omega⟩) hS (by omega) (fun _ _ _ _ _ h => h.elim) (fun  H2 locs hq hF hS => ?_)
  have hO := hO.fr hF (by omega)
  have hO_i := hO_i.fr hF (by omega)
  have hB := hB.fr hF (by omega)
  have hP := hq
  have hOs := hP.1.1
  have hPt := hP.2.1
  have hMt_i := hMt_i.fr hF (by omega)
  refine lv_aload_n hx hb dX2_isHashed_11 rfl (lv_at hl 1 rfl) ?_
  refine x_get (ci := 2) hx hb hts hown hK rfl hw1 5 (by decide) hw0 hO rfl dX2_isHashed_12 ?_
  refine x_getN (ci := 1) (host := RX2) hx hb hts hown hK rfl hw2 0 (by decide) (x_nest hE (by decide +kernel)) hOs rfl dX2_isHashed_15 ?_
  refine x_goI_ro (x_runV (As := []) (rest := []) ⟨hx, hb, hml, hown, hts⟩ hE h0 hS (c_X0_hash l G (vk b sp + 1) (txt i) H2 hPt) (cwV 0 hts gX2_isHashed_X0_hash rfl rfl rfl (by decide +kernel) ⟨Nat.le_of_ble_eq_true rfl, Nat.le_of_ble_eq_true rfl⟩) (hPt.recv hK) (by omega) rfl rfl hl.1 rfl (lv_room (Nat.le_of_ble_eq_true rfl)) dX2_isHashed_18 ⟨by first | exact Nat.le_of_ble_eq_true rfl | omega, by first | exact Nat.le_of_ble_eq_true rfl | omega⟩) hS (by omega) (fun _ _ _ _ _ h => h.elim) (fun locs hq hS => ?_)
  refine lv_aload_n hx hb dX2_isHashed_21 rfl (lv_at hl 0 rfl) ?_
  refine x_getN (ci := 1) (host := RX2) hx hb hts hown hK rfl hw2 0 (by decide) (x_nest hE (by decide +kernel)) hO_i rfl dX2_isHashed_22 ?_
  refine x_goI_ro (x_runV (As := []) (rest := [.int (hsh (txt i) (txt i).length)]) ⟨hx, hb, hml, hown, hts⟩ hE h0 hS (c_X0_hash l G (vk b (sl i) + 1) (txt i) H2 hMt_i) (cwV 0 hts gX2_isHashed_X0_hash rfl rfl rfl (by decide +kernel) ⟨Nat.le_of_ble_eq_true rfl, Nat.le_of_ble_eq_true rfl⟩) (hMt_i.recv hK) (by omega) rfl rfl hl.1 rfl (lv_room (Nat.le_of_ble_eq_true rfl)) dX2_isHashed_25 ⟨by first | exact Nat.le_of_ble_eq_true rfl | omega, by first | exact Nat.le_of_ble_eq_true rfl | omega⟩) hS (by omega) (fun _ _ _ _ _ h => h.elim) (fun locs hq hS => ?_)
  refine lv_icmp_ne (tgt := 35) hx hb dX2_isHashed_28 (by decide) (fun c28 => ?_) (fun c28 => ?_)
  · exact absurd rfl c28
  · refine lv_iconst (v := nI 1) hx hb dX2_isHashed_31 (by decide) ?_
    refine lv_goto (tgt := 36) hx hb dX2_isHashed_32 (by decide) ?_
    exact x_zret hx hb hr hlocks h0 hS (by omega) (by omega) dX2_isHashed_36 (by first | rfl | exact bI_nar _) (⟨⟨i, hi, rfl⟩, rfl, XW.mk' hB hP.vo⟩)

abbrev RMX2_checksum : Room := { frames := 3, cells := 0, slots := 0, locals := 58 }
set_option maxHeartbeats 4000000 in
set_option maxRecDepth 100000 in
theorem c_X2_checksum (l : Launch) (G : gG) (b : Nat) (L : List Nat) (txt : Nat → List Nat) (H0 : Heap) (hXW : XW G b L txt H0) : XM l yX2_checksum wsX2_checksum RMX2_checksum G [.ref b] H0 0 0 0 0 (roL H0 (chs txt (adl L 23 L.length) 8) True) xN := by
  refine x_ofW (cc := cX2_checksum) (maxL := 4) (ret := (some .long)) (by decide) rfl (Nat.le_of_ble_eq_true rfl) ?_
  intro p e s m below meth c hx hb hr hml hown hts hlocks hout hin2 h0 hE ls hl
  replace hown : s.vm.findClass RX2 = some m.cls := hown
  have hK := hE.1
  have hS : va_S (gA 0 0 H0.size) H0 H0 [] := va_S.rf
  generalize hargs : ([.ref b] : List Value).toArray = args at hts ⊢
  have hw0 := hts (.fieldLink RX2 10 "Releaseledger" "draft" "LReleaseledger$Text;") (by decide +kernel)
  have hw1 : ∀ w ∈ u_ws RX2 TX2 6, w ∈ wsX2_checksum := by decide +kernel
  have hw2 := hts (.constantLong RX2 180 (23)) (by decide +kernel)
  have hw3 := hts (.fieldLink RX2 18 "Releaseledger" "slots" "[LReleaseledger$Version;") (by decide +kernel)
  have hw4 : ∀ w ∈ u_ws RX1 TX1 4, w ∈ wsX2_checksum := by decide +kernel
  have hl : lv_has ls 4 [(0, .ref b)] := hl
  obtain ⟨sl, sp, P0, hB, hVo⟩ := hXW
  have hrg := hB.rng
  have hO := hB.O
  have hT := hB.T
  obtain ⟨f3, hSl, hsl⟩ := hB.2.2.1
  have hTn := hT.le
  have hOs := hVo.1.1
  have hVt := hVo.2.1
  refine lv_aload_n hx hb dX2_checksum_0 rfl (lv_at hl 0 rfl) ?_
  refine x_get (ci := 2) hx hb hts hown hK rfl hw1 0 (by decide) hw0 hO rfl dX2_checksum_1 ?_
  refine lv_ldc2 hx hb hown hw2 dX2_checksum_4 ?_
  refine x_goL_ro (x_runV (As := [.long 23]) (rest := []) ⟨hx, hb, hml, hown, hts⟩ hE h0 hS (c_X0_addTo l G (b + 1) L 23 H0 hT) (cwV 1 hts gX2_checksum_X0_addTo rfl rfl rfl (by decide +kernel) ⟨Nat.le_of_ble_eq_true rfl, Nat.le_of_ble_eq_true rfl⟩) (hT.recv hK) (by omega) rfl rfl hl.1 rfl (lv_room (Nat.le_of_ble_eq_true rfl)) dX2_checksum_7 ⟨by first | exact Nat.le_of_ble_eq_true rfl | omega, by first | exact Nat.le_of_ble_eq_true rfl | omega⟩) hS (by omega) (fun _ _ _ _ _ h => h.elim) (fun locs hq hS => ?_)
  refine lv_lstore_n (lv' := [(1, .long (adl L 23 L.length)), (0, .ref b)]) hx hb dX2_checksum_10 rfl hl (by decide) rfl (fun ls hl => ?_)
  refine lv_iconst (v := nI 0) hx hb dX2_checksum_11 (by decide) ?_
  refine lv_istore_n (lv' := [(3, .int (nI 0)), (1, .long (adl L 23 L.length)), (0, .ref b)]) hx hb dX2_checksum_12 rfl hl (by decide) rfl (fun ls hl => ?_)
  have loop13 : ∀ (fu : Nat) (t : Int64) (i : Nat) (ht : t = chs txt (adl L 23 L.length) i) (hi : i ≤ 8) (locs : List Loc) (hS : va_S (gA 0 0 H0.size) H0 H0 locs) (ls : Array Slot), 8 - i < fu → lv_has ls 4 [(3, .int (nI i)), (1, .long t), (0, .ref b)] → W p l e RMX2_checksum s m args below meth c H0 locs (0 + 0) (0 + 0) (XQ below args s H0 0 0 0 0 (roL H0 (chs txt (adl L 23 L.length) 8) True) xN) (F0 m 13 ls []) := by
    intro fu13
    induction fu13 with
    | zero => intro t i ht hi locs hS  ls hmu; exact absurd hmu (Nat.not_lt_zero _)
    | succ fu13 ih13 =>
      intro t i ht hi locs hS  ls hmu13 hl
      refine lv_iload_n hx hb dX2_checksum_13 rfl (lv_at hl 0 rfl) ?_
      refine lv_bipush (v := nI 8) hx hb dX2_checksum_14 (by decide) ?_
      refine x_icmp_ge (tgt := 39) hx hb (by omega) (by omega) dX2_checksum_16 (by decide) (fun c16 => ?_) (fun c16 => ?_)
      · refine lv_lload_n hx hb dX2_checksum_39 rfl (lv_at hl 1 rfl) ?_
        exact x_lret hx hb hr hlocks h0 hS (by omega) (by omega) dX2_checksum_40 (⟨rfl, by rw [ht, show i = 8 by omega], trivial⟩)
      · have hM_i := hB.V (i := i) (by omega)
        have hO_i := hM_i.1.1
        have hMt_i := hM_i.2.1
        refine lv_aload_n hx hb dX2_checksum_19 rfl (lv_at hl 2 rfl) ?_
        refine x_get (ci := 2) hx hb hts hown hK rfl hw1 1 (by decide) hw3 hO rfl dX2_checksum_20 ?_
        refine lv_iload_n hx hb dX2_checksum_23 rfl (lv_at hl 0 rfl) ?_
        refine x_aald (k := 2) (v := (vk b (sl i))) hx hb hK (by decide) rfl hSl (by omega) (by decide) (hsl _ (by omega)) dX2_checksum_24 ?_
        refine x_getN (ci := 1) (host := RX2) hx hb hts hown hK rfl hw4 0 (by decide) (x_nest hE (by decide +kernel)) hO_i rfl dX2_checksum_25 ?_
        refine lv_lload_n hx hb dX2_checksum_28 rfl (lv_at hl 1 rfl) ?_
        refine x_goL_ro (x_runV (As := [.long t]) (rest := []) ⟨hx, hb, hml, hown, hts⟩ hE h0 hS (c_X0_addTo l G (vk b (sl i) + 1) (txt i) t H0 hMt_i) (cwV 1 hts gX2_checksum_X0_addTo rfl rfl rfl (by decide +kernel) ⟨Nat.le_of_ble_eq_true rfl, Nat.le_of_ble_eq_true rfl⟩) (hMt_i.recv hK) (by omega) rfl rfl hl.1 rfl (lv_room (Nat.le_of_ble_eq_true rfl)) dX2_checksum_29 ⟨by first | exact Nat.le_of_ble_eq_true rfl | omega, by first | exact Nat.le_of_ble_eq_true rfl | omega⟩) hS (by omega) (fun _ _ _ _ _ h => h.elim) (fun locs hq hS => ?_)
        refine lv_lstore_n (lv' := [(1, .long (adl (txt i) t (txt i).length)), (3, .int (nI i)), (0, .ref b)]) hx hb dX2_checksum_32 rfl hl (by decide) rfl (fun ls hl => ?_)
        refine lv_iinc (v := nI (i + 1)) (lv' := [(3, .int (nI (i + 1))), (1, .long (adl (txt i) t (txt i).length)), (0, .ref b)]) hx hb dX2_checksum_33 hl (k := 1) rfl (nI_1 _) (by decide) rfl (fun ls hl => ?_)
        refine lv_goto (tgt := 13) hx hb dX2_checksum_36 (by decide) ?_
        exact ih13 (adl (txt i) t (txt i).length) (i + 1) (by rw [ht]; rfl) (by omega) _ hS ls (by omega) (lv_sub hl [0, 1, 2] rfl)
  exact loop13 _ (adl L 23 L.length) 0 rfl (by omega) _ hS ls (Nat.lt_succ_self _) (lv_sub hl [0, 1, 2] rfl)
