abbrev RMX0_init : Room := { frames := 2, cells := 1, slots := 60, locals := 30 }
set_option maxHeartbeats 4000000 in
set_option maxRecDepth 100000 in
theorem c_X0_init (l : Launch) (G : gG) (a : Nat) (H0 : Heap) (hO : gO G a 0 [.null, .int (nI 0)] H0) (hz0 : H0.size = a + 1) : XM l yX0_init wsX0_init RMX0_init G [.ref a] H0 a (a + 1) 1 60 (qV (fun H1 => Tx G a [] H1)) xN := by
  refine x_ofW (cc := cX0_init) (maxL := 1) (ret := none) (by decide) rfl (Nat.le_of_ble_eq_true rfl) ?_
  intro p e s m below meth c hx hb hr hml hown hts hlocks hout hin2 h0 hE ls hl
  replace hown : s.vm.findClass RX0 = some m.cls := hown
  have hK := hE.1
  have hS : va_S (gA a (a + 1) H0.size) H0 H0 [] := va_S.rf
  generalize hargs : ([.ref a] : List Value).toArray = args at hts ⊢
  have hw0 := hts (.methodLink RX0 3 objectInit) (by decide +kernel)
  have hw1 := hts (.instanceMethod objectInit) (by decide +kernel)
  have hw2 := hts (.code objectInit ⟨#[0xb1]⟩ 1 none) (by decide +kernel)
  have hw3 := hts (.arrayClass .char) (by decide +kernel)
  have hw4 := hts (.fieldLink RX0 9 "Releaseledger$Text" "signs" "[C") (by decide +kernel)
  have hw5 : ∀ w ∈ u_ws RX0 TX0 2, w ∈ wsX0_init := by decide +kernel
  have hw6 := hts (.fieldLink RX0 15 "Releaseledger$Text" "count" "I") (by decide +kernel)
  have hl : lv_has ls 1 [(0, .ref a)] := hl
  refine lv_aload_n hx hb dX0_init_0 rfl (lv_at hl 0 rfl) ?_
  refine x_objInit hx hb (hml.trans hl.1.symm) hown hw0 hw1 hw2 dX0_init_1 (Nat.le_of_ble_eq_true rfl) (Nat.le_of_ble_eq_true rfl) ?_
  refine lv_aload_n hx hb dX0_init_4 rfl (lv_at hl 0 rfl) ?_
  refine lv_bipush (v := nI 60) hx hb dX0_init_5 (by decide) ?_
  refine x_newC (n := 60) hx hb hK hS hw3 (by decide) (Nat.le_of_ble_eq_true rfl) (Nat.le_of_ble_eq_true rfl) dX0_init_7 (fun zq H1 hze_zq hz0_zq hzq hF hz_zq hS => ?_)
  have hlt_hO := hO.lt
  have hO := hO.fr hF (by omega)
  obtain rfl : zq = a + 1 := by omega
  refine x_putF (ci := 0) hx hb hts hown hK rfl hw5 tyX0_ok nmX0 0 (by decide) hw4 rfl hin2 rfl (tyX0_ok 0 (by decide)) rfl rfl hO (Nat.le_of_ble_eq_true rfl) hS (by unfold gA; omega) dX0_init_9 (fun H2 locs hO hF hz hS => ?_)
  have hO : gO G a 0 [.ref (a + 1), .int (nI 0)] H2 := hO
  have hzq := hzq.fr hF (by omega)
  refine lv_aload_n hx hb dX0_init_12 rfl (lv_at hl 0 rfl) ?_
  refine lv_iconst (v := nI 0) hx hb dX0_init_13 (by decide) ?_
  refine x_put (ci := 0) hx hb hts hown hK rfl hw5 tyX0_ok nmX0 1 (by decide) hw6 rfl (tyX0_ok 1 (by decide)) rfl rfl hO (Nat.le_of_ble_eq_true rfl) hS (by unfold gA; omega) dX0_init_14 (fun H3 locs hO hF hz hS => ?_)
  have hO : gO G a 0 [.ref (a + 1), .int (nI 0)] H3 := hO
  have hzq := hzq.fr hF (by omega)
  exact x_vret hx hb hr hlocks h0 hS (by omega) (by omega) dX0_init_17 (⟨_, hO, hzq, fun i hi => absurd hi (Nat.not_lt_zero _), by decide, fun c hc => absurd hc List.not_mem_nil⟩)

abbrev RMX1_init : Room := { frames := 4, cells := 11, slots := 431, locals := 84 }
set_option maxHeartbeats 4000000 in
set_option maxRecDepth 100000 in
theorem c_X1_init (l : Launch) (G : gG) (v : Nat) (H0 : Heap) (hO : gO G v 1 [.null, .null, .null, .null] H0) (hz0 : H0.size = v + 1) : XM l yX1_init wsX1_init RMX1_init G [.ref v] H0 v (v + 12) 11 431 (qV (fun H1 => VR G v [48] (tk [48]) H1)) xN := by
  refine x_ofW (cc := cX1_init) (maxL := 1) (ret := none) (by decide) rfl (Nat.le_of_ble_eq_true rfl) ?_
  intro p e s m below meth c hx hb hr hml hown hts hlocks hout hin2 h0 hE ls hl
  replace hown : s.vm.findClass RX1 = some m.cls := hown
  have hK := hE.1
  have hS : va_S (gA v (v + 12) H0.size) H0 H0 [] := va_S.rf
  generalize hargs : ([.ref v] : List Value).toArray = args at hts ⊢
  have hw0 := hts (.methodLink RX1 3 objectInit) (by decide +kernel)
  have hw1 := hts (.instanceMethod objectInit) (by decide +kernel)
  have hw2 := hts (.code objectInit ⟨#[0xb1]⟩ 1 none) (by decide +kernel)
  have hw3 := hts (.classLink RX1 9 RX0) (by decide +kernel)
  have hw4 := hts (.instantiable RX0 2) (by decide +kernel)
  have hw5 := hts (.initialized RX0) (by decide +kernel)
  have hw6 : ∀ w ∈ u_ws RX0 TX0 2, w ∈ wsX1_init := by decide +kernel
  have hw7 := hts (.fieldLink RX1 12 "Releaseledger$Version" "told" "LReleaseledger$Text;") (by decide +kernel)
  have hw8 : ∀ w ∈ u_ws RX1 TX1 4, w ∈ wsX1_init := by decide +kernel
  have hw9 := hts (.classLink RX1 18 "[[I") (by decide +kernel)
  have hw10 := hts (.arrayClass .int) (by decide +kernel)
  have hw11 := hts (.fieldLink RX1 20 "Releaseledger$Version" "starts" "[[I") (by decide +kernel)
  have hw12 := hts (.fieldLink RX1 23 "Releaseledger$Version" "sizes" "[[I") (by decide +kernel)
  have hw13 := hts (.fieldLink RX1 26 "Releaseledger$Version" "counts" "[I") (by decide +kernel)
  have hl : lv_has ls 1 [(0, .ref v)] := hl
  refine lv_aload_n hx hb dX1_init_0 rfl (lv_at hl 0 rfl) ?_
  refine x_objInit hx hb (hml.trans hl.1.symm) hown hw0 hw1 hw2 dX1_init_1 (Nat.le_of_ble_eq_true rfl) (Nat.le_of_ble_eq_true rfl) ?_
  refine lv_aload_n hx hb dX1_init_4 rfl (lv_at hl 0 rfl) ?_
  refine x_newO (ci := 0) (fs := [.null, .int (nI 0)]) hx hb hts hown hw3 hw4 hw5 hK rfl hw6 tyX0 tyX0_ok (fun j hj => by rcases (show j = 0 ∨ j = 1 by omega) with rfl | rfl <;> rfl) hS (Nat.le_of_ble_eq_true rfl) (Nat.le_of_ble_eq_true rfl) dX1_init_5 (fun zt H1 hze_zt hz0_zt hzt hF hz_zt hS => ?_)
  have hlt_hO := hO.lt
  have hO := hO.fr hF (by omega)
  obtain rfl : zt = v + 1 := by omega
  refine lv_dup hx hb dX1_init_8 rfl ?_
  refine x_goV (x_runIN (As := []) (rest := [.ref (v + 1), .ref v]) ⟨hx, hb, hml, hown, hts⟩ hE h0 hS (c_X0_init l G (v + 1) H1 hzt (by omega)) ⟨(va_cnB (host := RX2) 0 hts ggX1_init_X0_init rfl rfl rfl (x_nest hE (by decide +kernel)) (hts (.initialized RX0) (by decide +kernel)) (by decide +kernel) ⟨Nat.le_of_ble_eq_true rfl, Nat.le_of_ble_eq_true rfl⟩), rfl, hts (.instanceMethod yX0_init) (by decide +kernel)⟩ (by omega) rfl rfl hl.1 rfl (lv_room (Nat.le_of_ble_eq_true rfl)) dX1_init_9 ⟨by first | exact Nat.le_of_ble_eq_true rfl | omega, by first | exact Nat.le_of_ble_eq_true rfl | omega⟩) hS (by omega) (fun _ _ _ _ _ h => h.elim) (fun  H2 locs hq hF hS => ?_)
  have hO := hO.fr hF (by omega)
  have hT := hq
  refine x_putF (ci := 1) hx hb hts hown hK rfl hw8 tyX1_ok nmX1 0 (by decide) hw7 rfl hin2 rfl (tyX1_ok 0 (by decide)) rfl rfl hO (Nat.le_of_ble_eq_true rfl) hS (by unfold gA; omega) dX1_init_12 (fun H3 locs hO hF hz hS => ?_)
  have hO : gO G v 1 [.ref (v + 1), .null, .null, .null] H3 := hO
  have hT := hT.fr hF (by omega)
  refine lv_aload_n hx hb dX1_init_15 rfl (lv_at hl 0 rfl) ?_
  refine lv_iconst (v := nI 3) hx hb dX1_init_16 (by decide) ?_
  refine lv_bipush (v := nI 60) hx hb dX1_init_17 (by decide) ?_
  refine x_size h0 (fun hcap => ?_)
  have hTl := hT.lt
  refine x_multi2 (k1 := 3) (k2 := 1) (n := 3) (j := 60) (ty := .int) hx hb hown hw9 rfl hE.2.1.2.2.2.2.2.2.1 hw10 rfl (by decide) (by decide) hK hS (Nat.le_of_ble_eq_true rfl) (Nat.le_of_ble_eq_true rfl) (Nat.le_of_ble_eq_true rfl) (Nat.le_of_ble_eq_true rfl) dX1_init_19 (fun zs H4 hze_zs hz0_zs hzs hr_zs hF hz_zs hS => ?_)
  have hlt_hO := hO.lt
  have hO := hO.fr hF (by omega)
  have hT := hT.fr hF (by omega)
  obtain rfl : zs = v + 3 := by omega
  refine x_putF (ci := 1) hx hb hts hown hK rfl hw8 tyX1_ok nmX1 1 (by decide) hw11 rfl hin2 rfl (tyX1_ok 1 (by decide)) rfl rfl hO (Nat.le_of_ble_eq_true rfl) hS (by unfold gA; omega) dX1_init_23 (fun H5 locs hO hF hz hS => ?_)
  have hO : gO G v 1 [.ref (v + 1), .ref (v + 3), .null, .null] H5 := hO
  have hzs := hzs.fr hF (by omega)
  have hT := hT.fr hF (by omega)
  have hr_zs := hr_zs.fr hF (by omega)
  refine lv_aload_n hx hb dX1_init_26 rfl (lv_at hl 0 rfl) ?_
  refine lv_iconst (v := nI 3) hx hb dX1_init_27 (by decide) ?_
  refine lv_bipush (v := nI 60) hx hb dX1_init_28 (by decide) ?_
  refine x_size h0 (fun hcap => ?_)
  refine x_multi2 (k1 := 3) (k2 := 1) (n := 3) (j := 60) (ty := .int) hx hb hown hw9 rfl hE.2.1.2.2.2.2.2.2.1 hw10 rfl (by decide) (by decide) hK hS (Nat.le_of_ble_eq_true rfl) (Nat.le_of_ble_eq_true rfl) (Nat.le_of_ble_eq_true rfl) (Nat.le_of_ble_eq_true rfl) dX1_init_30 (fun zz H6 hze_zz hz0_zz hzz hr_zz hF hz_zz hS => ?_)
  have hlt_hO := hO.lt
  have hlt_hzs := hzs.lt
  have hO := hO.fr hF (by omega)
  have hzs := hzs.fr hF (by omega)
  have hT := hT.fr hF (by omega)
  have hr_zs := hr_zs.fr hF (by omega)
  obtain rfl : zz = v + 7 := by omega
  refine x_putF (ci := 1) hx hb hts hown hK rfl hw8 tyX1_ok nmX1 2 (by decide) hw12 rfl hin2 rfl (tyX1_ok 2 (by decide)) rfl rfl hO (Nat.le_of_ble_eq_true rfl) hS (by unfold gA; omega) dX1_init_34 (fun H7 locs hO hF hz hS => ?_)
  have hO : gO G v 1 [.ref (v + 1), .ref (v + 3), .ref (v + 7), .null] H7 := hO
  have hzs := hzs.fr hF (by omega)
  have hzz := hzz.fr hF (by omega)
  have hT := hT.fr hF (by omega)
  have hr_zs := hr_zs.fr hF (by omega)
  have hr_zz := hr_zz.fr hF (by omega)
  refine lv_aload_n hx hb dX1_init_37 rfl (lv_at hl 0 rfl) ?_
  refine lv_iconst (v := nI 3) hx hb dX1_init_38 (by decide) ?_
  refine x_newI (n := 3) hx hb hK hS hw10 (by decide) (Nat.le_of_ble_eq_true rfl) (Nat.le_of_ble_eq_true rfl) dX1_init_39 (fun zc H8 hze_zc hz0_zc hzc hF hz_zc hS => ?_)
  have hlt_hO := hO.lt
  have hlt_hzs := hzs.lt
  have hlt_hzz := hzz.lt
  have hO := hO.fr hF (by omega)
  have hzs := hzs.fr hF (by omega)
  have hzz := hzz.fr hF (by omega)
  have hT := hT.fr hF (by omega)
  have hr_zs := hr_zs.fr hF (by omega)
  have hr_zz := hr_zz.fr hF (by omega)
  obtain rfl : zc = v + 11 := by omega
  refine x_putF (ci := 1) hx hb hts hown hK rfl hw8 tyX1_ok nmX1 3 (by decide) hw13 rfl hin2 rfl (tyX1_ok 3 (by decide)) rfl rfl hO (Nat.le_of_ble_eq_true rfl) hS (by unfold gA; omega) dX1_init_41 (fun H9 locs hO hF hz hS => ?_)
  have hO : gO G v 1 [.ref (v + 1), .ref (v + 3), .ref (v + 7), .ref (v + 11)] H9 := hO
  have hzs := hzs.fr hF (by omega)
  have hzz := hzz.fr hF (by omega)
  have hzc := hzc.fr hF (by omega)
  have hT := hT.fr hF (by omega)
  have hr_zs := hr_zs.fr hF (by omega)
  have hr_zz := hr_zz.fr hF (by omega)
  refine lv_aload_n hx hb dX1_init_44 rfl (lv_at hl 0 rfl) ?_
  refine x_get (ci := 1) hx hb hts hown hK rfl hw8 0 (by decide) hw7 hO rfl dX1_init_45 ?_
  have hVo : Vo G v [] H9 := ⟨⟨hO, hzs, hzz⟩, hT, ⟨_, hzc⟩, fun r hr => ⟨_, _, hr_zs r hr, hr_zz r hr⟩⟩
  refine lv_bipush (v := nI 48) hx hb dX1_init_48 (by decide) ?_
  refine x_goV (x_runV (As := [.int (nI 48)]) (rest := []) ⟨hx, hb, hml, hown, hts⟩ hE h0 hS (c_X0_put l G (v + 1) [] 48 (by decide) (by decide) H9 hT) (cwV 1 hts gX1_init_X0_put rfl rfl rfl (by decide +kernel) ⟨Nat.le_of_ble_eq_true rfl, Nat.le_of_ble_eq_true rfl⟩) (hT.recv hK) (by omega) rfl rfl hl.1 rfl (lv_room (Nat.le_of_ble_eq_true rfl)) dX1_init_50 ⟨by first | exact Nat.le_of_ble_eq_true rfl | omega, by first | exact Nat.le_of_ble_eq_true rfl | omega⟩) hS (by omega) (fun _ _ _ _ _ h => h.elim) (fun  H10 locs hq hF hS => ?_)
  have hVo := hVo.setT hF hq
  refine lv_aload_n hx hb dX1_init_53 rfl (lv_at hl 0 rfl) ?_
  refine x_goV (x_runV (As := []) (rest := []) ⟨hx, hb, hml, hown, hts⟩ hE h0 hS (c_X1_readTokens l G v [48] H10 hVo) (cwV 0 hts gX1_init_X1_readTokens rfl rfl rfl (by decide +kernel) ⟨Nat.le_of_ble_eq_true rfl, Nat.le_of_ble_eq_true rfl⟩) (hVo.recv hK) (by omega) rfl rfl hl.1 rfl (lv_room (Nat.le_of_ble_eq_true rfl)) dX1_init_54 ⟨by first | exact Nat.le_of_ble_eq_true rfl | omega, by first | exact Nat.le_of_ble_eq_true rfl | omega⟩) hS (by omega) (fun _ _ _ _ _ h => h.elim) (fun  H11 locs hq hF hS => ?_)
  exact x_vret hx hb hr hlocks h0 hS (by omega) (by omega) dX1_init_57 (hq)

abbrev RMX2_init : Room := { frames := 5, cells := 114, slots := 4065, locals := 104 }
set_option maxHeartbeats 4000000 in
set_option maxRecDepth 100000 in
theorem c_X2_init (l : Launch) (G : gG) (b : Nat) (H0 : Heap) (hO : gO G b 2 [.null, .null, .null, .null, .null, .null] H0) (hz0 : H0.size = b + 1) : XM l yX2_init wsX2_init RMX2_init G [.ref b] H0 b (b + 1) 114 4065 (qV (fun H1 => XW G b [] (fun _ => [48]) H1)) xN := by
  refine x_ofW (cc := cX2_init) (maxL := 2) (ret := none) (by decide) rfl (Nat.le_of_ble_eq_true rfl) ?_
  intro p e s m below meth c hx hb hr hml hown hts hlocks hout hin2 h0 hE ls hl
  replace hown : s.vm.findClass RX2 = some m.cls := hown
  have hK := hE.1
  have hS : va_S (gA b (b + 1) H0.size) H0 H0 [] := va_S.rf
  generalize hargs : ([.ref b] : List Value).toArray = args at hts ⊢
  have hw0 := hts (.methodLink RX2 1 objectInit) (by decide +kernel)
  have hw1 := hts (.instanceMethod objectInit) (by decide +kernel)
  have hw2 := hts (.code objectInit ⟨#[0xb1]⟩ 1 none) (by decide +kernel)
  have hw3 := hts (.classLink RX2 7 RX0) (by decide +kernel)
  have hw4 := hts (.instantiable RX0 2) (by decide +kernel)
  have hw5 := hts (.initialized RX0) (by decide +kernel)
  have hw6 : ∀ w ∈ u_ws RX0 TX0 2, w ∈ wsX2_init := by decide +kernel
  have hw7 := hts (.fieldLink RX2 10 "Releaseledger" "draft" "LReleaseledger$Text;") (by decide +kernel)
  have hw8 : ∀ w ∈ u_ws RX2 TX2 6, w ∈ wsX2_init := by decide +kernel
  have hw9 := hts (.classLink RX2 16 RX1) (by decide +kernel)
  have hw10 := hts (.fieldLink RX2 18 "Releaseledger" "slots" "[LReleaseledger$Version;") (by decide +kernel)
  have hw11 := hts (.fieldLink RX2 22 "Releaseledger" "sorted" "[LReleaseledger$Version;") (by decide +kernel)
  have hw12 := hts (.arrayClass .int) (by decide +kernel)
  have hw13 := hts (.fieldLink RX2 25 "Releaseledger" "slotsInOrder" "[I") (by decide +kernel)
  have hw14 := hts (.fieldLink RX2 29 "Releaseledger" "orders" "[I") (by decide +kernel)
  have hw15 := hts (.instantiable RX1 4) (by decide +kernel)
  have hw16 := hts (.initialized RX1) (by decide +kernel)
  have hw17 : ∀ w ∈ u_ws RX1 TX1 4, w ∈ wsX2_init := by decide +kernel
  have hw18 := hts (.fieldLink RX2 33 "Releaseledger" "spare" "LReleaseledger$Version;") (by decide +kernel)
  have hl : lv_has ls 2 [(0, .ref b)] := hl
  refine lv_aload_n hx hb dX2_init_0 rfl (lv_at hl 0 rfl) ?_
  refine x_objInit hx hb (hml.trans hl.1.symm) hown hw0 hw1 hw2 dX2_init_1 (Nat.le_of_ble_eq_true rfl) (Nat.le_of_ble_eq_true rfl) ?_
  refine lv_aload_n hx hb dX2_init_4 rfl (lv_at hl 0 rfl) ?_
  refine x_newO (ci := 0) (fs := [.null, .int (nI 0)]) hx hb hts hown hw3 hw4 hw5 hK rfl hw6 tyX0 tyX0_ok (fun j hj => by rcases (show j = 0 ∨ j = 1 by omega) with rfl | rfl <;> rfl) hS (Nat.le_of_ble_eq_true rfl) (Nat.le_of_ble_eq_true rfl) dX2_init_5 (fun zt H1 hze_zt hz0_zt hzt hF hz_zt hS => ?_)
  have hlt_hO := hO.lt
  have hO := hO.fr hF (by omega)
  obtain rfl : zt = b + 1 := by omega
  refine lv_dup hx hb dX2_init_8 rfl ?_
  refine x_goV (x_runIN (As := []) (rest := [.ref (b + 1), .ref b]) ⟨hx, hb, hml, hown, hts⟩ hE h0 hS (c_X0_init l G (b + 1) H1 hzt (by omega)) ⟨(va_cnB (host := RX2) 0 hts ggX2_init_X0_init rfl rfl rfl (x_nest hE (by decide +kernel)) (hts (.initialized RX0) (by decide +kernel)) (by decide +kernel) ⟨Nat.le_of_ble_eq_true rfl, Nat.le_of_ble_eq_true rfl⟩), rfl, hts (.instanceMethod yX0_init) (by decide +kernel)⟩ (by omega) rfl rfl hl.1 rfl (lv_room (Nat.le_of_ble_eq_true rfl)) dX2_init_9 ⟨by first | exact Nat.le_of_ble_eq_true rfl | omega, by first | exact Nat.le_of_ble_eq_true rfl | omega⟩) hS (by omega) (fun _ _ _ _ _ h => h.elim) (fun  H2 locs hq hF hS => ?_)
  have hO := hO.fr hF (by omega)
  have hT := hq
  refine x_putF (ci := 2) hx hb hts hown hK rfl hw8 tyX2_ok nmX2 0 (by decide) hw7 rfl hin2 rfl (tyX2_ok 0 (by decide)) rfl rfl hO (Nat.le_of_ble_eq_true rfl) hS (by unfold gA; omega) dX2_init_12 (fun H3 locs hO hF hz hS => ?_)
  have hO : gO G b 2 [.ref (b + 1), .null, .null, .null, .null, .null] H3 := hO
  have hT := hT.fr hF (by omega)
  refine lv_aload_n hx hb dX2_init_15 rfl (lv_at hl 0 rfl) ?_
  refine lv_bipush (v := nI 8) hx hb dX2_init_16 (by decide) ?_
  refine x_size h0 (fun hcap => ?_)
  have hTl := hT.lt
  refine x_newQO (k := 2) (C := RX1) (n := 8) hx hb hown hw9 hE.2.1.2.2.2.2.2.1 rfl (by decide) hK hS (Nat.le_of_ble_eq_true rfl) (Nat.le_of_ble_eq_true rfl) (Nat.le_of_ble_eq_true rfl) dX2_init_18 (fun zs H4 hze_zs hz0_zs hzs hF hz_zs hS => ?_)
  have hlt_hO := hO.lt
  have hO := hO.fr hF (by omega)
  have hT := hT.fr hF (by omega)
  obtain rfl : zs = b + 3 := by omega
  refine x_putF (ci := 2) hx hb hts hown hK rfl hw8 tyX2_ok nmX2 1 (by decide) hw10 rfl hin2 rfl (tyX2_ok 1 (by decide)) rfl rfl hO (Nat.le_of_ble_eq_true rfl) hS (by unfold gA; omega) dX2_init_21 (fun H5 locs hO hF hz hS => ?_)
  have hO : gO G b 2 [.ref (b + 1), .ref (b + 3), .null, .null, .null, .null] H5 := hO
  have hzs := hzs.fr hF (by omega)
  have hT := hT.fr hF (by omega)
  refine lv_aload_n hx hb dX2_init_24 rfl (lv_at hl 0 rfl) ?_
  refine lv_bipush (v := nI 8) hx hb dX2_init_25 (by decide) ?_
  refine x_newQO (k := 2) (C := RX1) (n := 8) hx hb hown hw9 hE.2.1.2.2.2.2.2.1 rfl (by decide) hK hS (Nat.le_of_ble_eq_true rfl) (Nat.le_of_ble_eq_true rfl) (Nat.le_of_ble_eq_true rfl) dX2_init_27 (fun zo H6 hze_zo hz0_zo hzo hF hz_zo hS => ?_)
  have hlt_hO := hO.lt
  have hlt_hzs := hzs.lt
  have hO := hO.fr hF (by omega)
  have hzs := hzs.fr hF (by omega)
  have hT := hT.fr hF (by omega)
  obtain rfl : zo = b + 4 := by omega
  refine x_putF (ci := 2) hx hb hts hown hK rfl hw8 tyX2_ok nmX2 2 (by decide) hw11 rfl hin2 rfl (tyX2_ok 2 (by decide)) rfl rfl hO (Nat.le_of_ble_eq_true rfl) hS (by unfold gA; omega) dX2_init_30 (fun H7 locs hO hF hz hS => ?_)
  have hO : gO G b 2 [.ref (b + 1), .ref (b + 3), .ref (b + 4), .null, .null, .null] H7 := hO
  have hzs := hzs.fr hF (by omega)
  have hzo := hzo.fr hF (by omega)
  have hT := hT.fr hF (by omega)
  refine lv_aload_n hx hb dX2_init_33 rfl (lv_at hl 0 rfl) ?_
  refine lv_bipush (v := nI 8) hx hb dX2_init_34 (by decide) ?_
  refine x_newI (n := 8) hx hb hK hS hw12 (by decide) (Nat.le_of_ble_eq_true rfl) (Nat.le_of_ble_eq_true rfl) dX2_init_36 (fun zi H8 hze_zi hz0_zi hzi hF hz_zi hS => ?_)
  have hlt_hO := hO.lt
  have hlt_hzs := hzs.lt
  have hlt_hzo := hzo.lt
  have hO := hO.fr hF (by omega)
  have hzs := hzs.fr hF (by omega)
  have hzo := hzo.fr hF (by omega)
  have hT := hT.fr hF (by omega)
  obtain rfl : zi = b + 5 := by omega
  refine x_putF (ci := 2) hx hb hts hown hK rfl hw8 tyX2_ok nmX2 3 (by decide) hw13 rfl hin2 rfl (tyX2_ok 3 (by decide)) rfl rfl hO (Nat.le_of_ble_eq_true rfl) hS (by unfold gA; omega) dX2_init_38 (fun H9 locs hO hF hz hS => ?_)
  have hO : gO G b 2 [.ref (b + 1), .ref (b + 3), .ref (b + 4), .ref (b + 5), .null, .null] H9 := hO
  have hzs := hzs.fr hF (by omega)
  have hzo := hzo.fr hF (by omega)
  have hzi := hzi.fr hF (by omega)
  have hT := hT.fr hF (by omega)
  refine lv_aload_n hx hb dX2_init_41 rfl (lv_at hl 0 rfl) ?_
  refine lv_bipush (v := nI 64) hx hb dX2_init_42 (by decide) ?_
  refine x_newI (n := 64) hx hb hK hS hw12 (by decide) (Nat.le_of_ble_eq_true rfl) (Nat.le_of_ble_eq_true rfl) dX2_init_44 (fun zr H10 hze_zr hz0_zr hzr hF hz_zr hS => ?_)
  have hlt_hO := hO.lt
  have hlt_hzs := hzs.lt
  have hlt_hzo := hzo.lt
  have hlt_hzi := hzi.lt
  have hO := hO.fr hF (by omega)
  have hzs := hzs.fr hF (by omega)
  have hzo := hzo.fr hF (by omega)
  have hzi := hzi.fr hF (by omega)
  have hT := hT.fr hF (by omega)
  obtain rfl : zr = b + 6 := by omega
  refine x_putF (ci := 2) hx hb hts hown hK rfl hw8 tyX2_ok nmX2 4 (by decide) hw14 rfl hin2 rfl (tyX2_ok 4 (by decide)) rfl rfl hO (Nat.le_of_ble_eq_true rfl) hS (by unfold gA; omega) dX2_init_46 (fun H11 locs hO hF hz hS => ?_)
  have hO : gO G b 2 [.ref (b + 1), .ref (b + 3), .ref (b + 4), .ref (b + 5), .ref (b + 6), .null] H11 := hO
  have hzs := hzs.fr hF (by omega)
  have hzo := hzo.fr hF (by omega)
  have hzi := hzi.fr hF (by omega)
  have hzr := hzr.fr hF (by omega)
  have hT := hT.fr hF (by omega)
  refine lv_aload_n hx hb dX2_init_49 rfl (lv_at hl 0 rfl) ?_
  refine x_newO (ci := 1) (fs := [.null, .null, .null, .null]) hx hb hts hown hw9 hw15 hw16 hK rfl hw17 tyX1 tyX1_ok (fun j hj => by rcases (show j = 0 ∨ j = 1 ∨ j = 2 ∨ j = 3 by omega) with rfl | rfl | rfl | rfl <;> rfl) hS (Nat.le_of_ble_eq_true rfl) (Nat.le_of_ble_eq_true rfl) dX2_init_50 (fun zv H12 hze_zv hz0_zv hzv hF hz_zv hS => ?_)
  have hlt_hO := hO.lt
  have hlt_hzs := hzs.lt
  have hlt_hzo := hzo.lt
  have hlt_hzi := hzi.lt
  have hlt_hzr := hzr.lt
  have hO := hO.fr hF (by omega)
  have hzs := hzs.fr hF (by omega)
  have hzo := hzo.fr hF (by omega)
  have hzi := hzi.fr hF (by omega)
  have hzr := hzr.fr hF (by omega)
  have hT := hT.fr hF (by omega)
  obtain rfl : zv = b + 7 := by omega
  refine lv_dup hx hb dX2_init_53 rfl ?_
  refine x_goV (x_runI (As := []) (rest := [.ref (b + 7), .ref b]) ⟨hx, hb, hml, hown, hts⟩ hE h0 hS (c_X1_init l G (b + 7) H12 hzv (by omega)) (cwI 0 hts gX2_init_X1_init rfl rfl rfl (hts (.initialized RX1) (by decide +kernel)) (hts (.methodLink RX2 32 yX1_init) (by decide +kernel)) (hts (.instanceMethod yX1_init) (by decide +kernel)) rfl (by decide +kernel) ⟨Nat.le_of_ble_eq_true rfl, Nat.le_of_ble_eq_true rfl⟩) (by omega) rfl rfl hl.1 rfl (lv_room (Nat.le_of_ble_eq_true rfl)) dX2_init_54 ⟨by first | exact Nat.le_of_ble_eq_true rfl | omega, by first | exact Nat.le_of_ble_eq_true rfl | omega⟩) hS (by omega) (fun _ _ _ _ _ h => h.elim) (fun  H13 locs hq hF hS => ?_)
  have hO := hO.fr hF (by omega)
  have hzs := hzs.fr hF (by omega)
  have hzo := hzo.fr hF (by omega)
  have hzi := hzi.fr hF (by omega)
  have hzr := hzr.fr hF (by omega)
  have hT := hT.fr hF (by omega)
  have hVs : VRs G b 0 H13 := fun k hk => by
    obtain rfl : k = 0 := by omega
    exact hq
  refine x_put (ci := 2) hx hb hts hown hK rfl hw8 tyX2_ok nmX2 5 (by decide) hw18 rfl (tyX2_ok 5 (by decide)) rfl rfl hO (Nat.le_of_ble_eq_true rfl) hS (by unfold gA; omega) dX2_init_57 (fun H14 locs hO hF hz hS => ?_)
  have hO : gO G b 2 [.ref (b + 1), .ref (b + 3), .ref (b + 4), .ref (b + 5), .ref (b + 6), .ref (b + 7)] H14 := hO
  have hzs := hzs.fr hF (by omega)
  have hzo := hzo.fr hF (by omega)
  have hzi := hzi.fr hF (by omega)
  have hzr := hzr.fr hF (by omega)
  have hT := hT.fr hF (by omega)
  have hVs := hVs.fr hF (by omega)
  refine lv_iconst (v := nI 0) hx hb dX2_init_60 (by decide) ?_
  refine lv_istore_n (lv' := [(1, .int (nI 0)), (0, .ref b)]) hx hb dX2_init_61 rfl hl (by decide) rfl (fun ls hl => ?_)
  have loop62 : ∀ (fu : Nat) (i : Nat) (cs ss : Nat) (g : Nat → Option Nat) (hi : i ≤ 8) (hcs : cs = 18 + 12 * i) (hss : ss = 585 + 435 * i) (hg : ∀ j, j < i → g j = some (vk b (j + 1))) (H : Heap) (locs : List Loc) (hS : va_S (gA b (b + 1) H0.size) H0 H locs) (hO : gO G b 2 [.ref (b + 1), .ref (b + 3), .ref (b + 4), .ref (b + 5), .ref (b + 6), .ref (b + 7)] H) (hzs : gQ G (b + 3) 2 8 g H) (hzo : gQ G (b + 4) 2 8 (fun _ => none) H) (hzi : gI G (b + 5) 1 8 (fun _ => nI 0) H) (hzr : gI G (b + 6) 1 64 (fun _ => nI 0) H) (hT : Tx G (b + 1) [] H) (hVs : VRs G b i H) (ls : Array Slot), 8 - i < fu → lv_has ls 2 [(1, .int (nI i)), (0, .ref b)] → W p l e RMX2_init s m args below meth c H locs cs ss (XQ below args s H0 b (b + 1) 114 4065 (qV (fun H1 => XW G b [] (fun _ => [48]) H1)) xN) (F0 m 62 ls []) := by
    intro fu62
    induction fu62 with
    | zero => intro i cs ss g hi hcs hss hg H locs hS hO hzs hzo hzi hzr hT hVs ls hmu; exact absurd hmu (Nat.not_lt_zero _)
    | succ fu62 ih62 =>
      intro i cs ss g hi hcs hss hg H locs hS hO hzs hzo hzi hzr hT hVs ls hmu62 hl
      refine lv_iload_n hx hb dX2_init_62 rfl (lv_at hl 0 rfl) ?_
      refine lv_bipush (v := nI 8) hx hb dX2_init_63 (by decide) ?_
      refine x_icmp_ge (tgt := 87) hx hb (by omega) (by omega) dX2_init_65 (by decide) (fun c65 => ?_) (fun c65 => ?_)
      · exact x_vret hx hb hr hlocks h0 hS (by omega) (by omega) dX2_init_87 (⟨fun i => i + 1, 0, [48], ⟨hO, hT, ⟨_, hzs, fun j hj => hg j (by omega)⟩, ⟨_, hzo⟩, ⟨_, hzi⟩, ⟨_, hzr⟩, fun j hj => hVs (j + 1) (by omega), ⟨by decide, fun j hj => ⟨by show j + 1 < 9; omega, by show j + 1 ≠ 0; omega⟩, fun a d _ _ e => by have e : a + 1 = d + 1 := e; omega⟩, fun _ _ => Gt_0, Or.inl rfl⟩, (hVs 0 (by omega)).vo⟩)
      · refine lv_aload_n hx hb dX2_init_68 rfl (lv_at hl 1 rfl) ?_
        refine x_get (ci := 2) hx hb hts hown hK rfl hw8 1 (by decide) hw10 hO rfl dX2_init_69 ?_
        refine lv_iload_n hx hb dX2_init_72 rfl (lv_at hl 0 rfl) ?_
        refine x_size h0 (fun hcap => ?_)
        have hVl := hVs.lt
        refine x_newO (ci := 1) (fs := [.null, .null, .null, .null]) hx hb hts hown hw9 hw15 hw16 hK rfl hw17 tyX1 tyX1_ok (fun j hj => by rcases (show j = 0 ∨ j = 1 ∨ j = 2 ∨ j = 3 by omega) with rfl | rfl | rfl | rfl <;> rfl) hS (Nat.le_trans (m := 114) (by omega) (Nat.le_of_ble_eq_true rfl)) (Nat.le_trans (m := 4065) (by omega) (Nat.le_of_ble_eq_true rfl)) dX2_init_73 (fun zw H15 hze_zw hz0_zw hzw hF hz_zw hS => ?_)
        have hlt_hO := hO.lt
        have hlt_hzs := hzs.lt
        have hlt_hzo := hzo.lt
        have hlt_hzi := hzi.lt
        have hlt_hzr := hzr.lt
        have hO := hO.fr hF (by omega)
        have hzs := hzs.fr hF (by omega)
        have hzo := hzo.fr hF (by omega)
        have hzi := hzi.fr hF (by omega)
        have hzr := hzr.fr hF (by omega)
        have hT := hT.fr hF (by omega)
        have hVs := hVs.fr hF (by omega)
        obtain rfl : zw = b + 7 + 12 * (i + 1) := by omega
        refine lv_dup hx hb dX2_init_76 rfl ?_
        refine x_goV (x_runI (As := []) (rest := [.ref (b + 7 + 12 * (i + 1)), .int (nI i), .ref (b + 3)]) ⟨hx, hb, hml, hown, hts⟩ hE h0 hS (c_X1_init l G (b + 7 + 12 * (i + 1)) H15 hzw (by omega)) (cwI 0 hts gX2_init_X1_init rfl rfl rfl (hts (.initialized RX1) (by decide +kernel)) (hts (.methodLink RX2 32 yX1_init) (by decide +kernel)) (hts (.instanceMethod yX1_init) (by decide +kernel)) rfl (by decide +kernel) ⟨Nat.le_of_ble_eq_true rfl, Nat.le_of_ble_eq_true rfl⟩) (by omega) rfl rfl hl.1 rfl (lv_room (Nat.le_of_ble_eq_true rfl)) dX2_init_77 ⟨Nat.le_trans (m := 114) (by omega) (Nat.le_of_ble_eq_true rfl), Nat.le_trans (m := 4065) (by omega) (Nat.le_of_ble_eq_true rfl)⟩) hS (by omega) (fun _ _ _ _ _ h => h.elim) (fun  H16 locs hq hF hS => ?_)
        have hO := hO.fr hF (by omega)
        have hzs := hzs.fr hF (by omega)
        have hzo := hzo.fr hF (by omega)
        have hzi := hzi.fr hF (by omega)
        have hzr := hzr.fr hF (by omega)
        have hT := hT.fr hF (by omega)
        have hVs := hVs.fr hF (by omega)
        have hVq := hq
        have hVs := hVs.add hq
        refine x_aast hx hb hK hzs hVq.1.1 (by omega) (by decide) hS (by unfold gA; omega) dX2_init_80 (fun H17 locs hzs hF hz hS => ?_)
        have hO := hO.fr hF (by omega)
        have hzo := hzo.fr hF (by omega)
        have hzi := hzi.fr hF (by omega)
        have hzr := hzr.fr hF (by omega)
        have hT := hT.fr hF (by omega)
        have hVs := hVs.fr hF (by omega)
        refine lv_iinc (v := nI (i + 1)) (lv' := [(1, .int (nI (i + 1))), (0, .ref b)]) hx hb dX2_init_81 hl (k := 0) rfl (nI_1 _) (by decide) rfl (fun ls hl => ?_)
        refine lv_goto (tgt := 62) hx hb dX2_init_84 (by decide) ?_
        exact ih62 (i + 1) (cs + 1 + 11) (ss + 4 + 431) (va_up g i (some (b + 7 + 12 * (i + 1)))) (by omega) (by omega) (by omega) (lt_s (fun a ha => by show (if a = i then _ else _) = _; rw [if_neg (by omega)]; exact hg a ha) (va_up_self _ _ _)) H17 _ hS hO hzs hzo hzi hzr hT hVs ls (by omega) (lv_sub hl [0, 1] rfl)
  exact loop62 _ 0 (0 + 1 + 1 + 1 + 1 + 1 + 1 + 1 + 11) (0 + 2 + 60 + 8 + 8 + 8 + 64 + 4 + 431) (fun _ => none) (by omega) (by omega) (by omega) lt_0 H14 _ hS hO hzs hzo hzi hzr hT hVs ls (Nat.lt_succ_self _) (lv_sub hl [0, 1] rfl)

abbrev RMX3_init : Room := { frames := 2, cells := 33, slots := 1302, locals := 30 }
set_option maxHeartbeats 4000000 in
set_option maxRecDepth 100000 in
theorem c_X3_init (l : Launch) (G : gG) (y : Nat) (H0 : Heap) (hO : gO G y 3 [.null, .int (nI 0), .null, .null, .null, .null, .null, .null, .int (nI 0)] H0) (hz0 : H0.size = y + 1) : XM l yX3_init wsX3_ini RMX3_init G [.ref y] H0 y (y + 1) 33 1302 (qV (fun H1 => MI G y H1)) xN := by
  refine x_ofW (cc := cX3_init) (maxL := 2) (ret := none) (by decide) rfl (Nat.le_of_ble_eq_true rfl) ?_
  intro p e s m below meth c hx hb hr hml hown hts hlocks hout hin2 h0 hE ls hl
  replace hown : s.vm.findClass RX3 = some m.cls := hown
  have hK := hE.1
  have hS : va_S (gA y (y + 1) H0.size) H0 H0 [] := va_S.rf
  generalize hargs : ([.ref y] : List Value).toArray = args at hts ⊢
  have hw0 := hts (.methodLink RX3 1 objectInit) (by decide +kernel)
  have hw1 := hts (.instanceMethod objectInit) (by decide +kernel)
  have hw2 := hts (.code objectInit ⟨#[0xb1]⟩ 1 none) (by decide +kernel)
  have hw3 := hts (.arrayClass .char) (by decide +kernel)
  have hw4 := hts (.fieldLink RX3 9 "ReleaseledgerModel" "draft" "[C") (by decide +kernel)
  have hw5 : ∀ w ∈ u_ws RX3 TX3 9, w ∈ wsX3_ini := by decide +kernel
  have hw6 := hts (.classLink RX3 13 "[[C") (by decide +kernel)
  have hw7 := hts (.fieldLink RX3 15 "ReleaseledgerModel" "texts" "[[C") (by decide +kernel)
  have hw8 := hts (.arrayClass .int) (by decide +kernel)
  have hw9 := hts (.fieldLink RX3 18 "ReleaseledgerModel" "sizes" "[I") (by decide +kernel)
  have hw10 := hts (.classLink RX3 22 "[C") (by decide +kernel)
  have hw11 := hts (.fieldLink RX3 23 "ReleaseledgerModel" "seen" "[[C") (by decide +kernel)
  have hw12 := hts (.classLink RX3 26 "[[I") (by decide +kernel)
  have hw13 := hts (.fieldLink RX3 28 "ReleaseledgerModel" "many" "[[I") (by decide +kernel)
  have hw14 := hts (.classLink RX3 31 "[[[I") (by decide +kernel)
  have hw15 := hts (.fieldLink RX3 33 "ReleaseledgerModel" "starts" "[[[I") (by decide +kernel)
  have hw16 := hts (.fieldLink RX3 36 "ReleaseledgerModel" "ends" "[[[I") (by decide +kernel)
  have hl : lv_has ls 2 [(0, .ref y)] := hl
  refine lv_aload_n hx hb dX3_init_0 rfl (lv_at hl 0 rfl) ?_
  refine x_objInit hx hb (hml.trans hl.1.symm) hown hw0 hw1 hw2 dX3_init_1 (Nat.le_of_ble_eq_true rfl) (Nat.le_of_ble_eq_true rfl) ?_
  refine lv_aload_n hx hb dX3_init_4 rfl (lv_at hl 0 rfl) ?_
  refine lv_bipush (v := nI 60) hx hb dX3_init_5 (by decide) ?_
  refine x_newC (n := 60) hx hb hK hS hw3 (by decide) (Nat.le_of_ble_eq_true rfl) (Nat.le_of_ble_eq_true rfl) dX3_init_7 (fun zd H1 hze_zd hz0_zd hzd hF hz_zd hS => ?_)
  have hlt_hO := hO.lt
  have hO := hO.fr hF (by omega)
  obtain rfl : zd = y + 1 := by omega
  refine x_putF (ci := 3) hx hb hts hown hK rfl hw5 tyX3_ok nmX3 0 (by decide) hw4 rfl hin2 rfl (tyX3_ok 0 (by decide)) rfl rfl hO (Nat.le_of_ble_eq_true rfl) hS (by unfold gA; omega) dX3_init_9 (fun H2 locs hO hF hz hS => ?_)
  have hO : gO G y 3 [.ref (y + 1), .int (nI 0), .null, .null, .null, .null, .null, .null, .int (nI 0)] H2 := hO
  have hzd := hzd.fr hF (by omega)
  refine lv_aload_n hx hb dX3_init_12 rfl (lv_at hl 0 rfl) ?_
  refine lv_bipush (v := nI 8) hx hb dX3_init_13 (by decide) ?_
  refine lv_bipush (v := nI 60) hx hb dX3_init_15 (by decide) ?_
  refine x_multi2 (k1 := 4) (k2 := 0) (n := 8) (j := 60) (ty := .char) hx hb hown hw6 rfl hE.2.1.2.2.2.2.2.2.2.1 hw3 rfl (by decide) (by decide) hK hS (Nat.le_of_ble_eq_true rfl) (Nat.le_of_ble_eq_true rfl) (Nat.le_of_ble_eq_true rfl) (Nat.le_of_ble_eq_true rfl) dX3_init_17 (fun zt H3 hze_zt hz0_zt hzt hr_zt hF hz_zt hS => ?_)
  have hlt_hO := hO.lt
  have hlt_hzd := hzd.lt
  have hO := hO.fr hF (by omega)
  have hzd := hzd.fr hF (by omega)
  obtain rfl : zt = y + 2 := by omega
  refine x_putF (ci := 3) hx hb hts hown hK rfl hw5 tyX3_ok nmX3 2 (by decide) hw7 rfl hin2 rfl (tyX3_ok 2 (by decide)) rfl rfl hO (Nat.le_of_ble_eq_true rfl) hS (by unfold gA; omega) dX3_init_21 (fun H4 locs hO hF hz hS => ?_)
  have hO : gO G y 3 [.ref (y + 1), .int (nI 0), .ref (y + 2), .null, .null, .null, .null, .null, .int (nI 0)] H4 := hO
  have hzd := hzd.fr hF (by omega)
  have hzt := hzt.fr hF (by omega)
  have hr_zt := hr_zt.fr hF (by omega)
  refine lv_aload_n hx hb dX3_init_24 rfl (lv_at hl 0 rfl) ?_
  refine lv_bipush (v := nI 8) hx hb dX3_init_25 (by decide) ?_
  refine x_newI (n := 8) hx hb hK hS hw8 (by decide) (Nat.le_of_ble_eq_true rfl) (Nat.le_of_ble_eq_true rfl) dX3_init_27 (fun zs H5 hze_zs hz0_zs hzs hF hz_zs hS => ?_)
  have hlt_hO := hO.lt
  have hlt_hzd := hzd.lt
  have hlt_hzt := hzt.lt
  have hO := hO.fr hF (by omega)
  have hzd := hzd.fr hF (by omega)
  have hzt := hzt.fr hF (by omega)
  have hr_zt := hr_zt.fr hF (by omega)
  obtain rfl : zs = y + 11 := by omega
  refine x_putF (ci := 3) hx hb hts hown hK rfl hw5 tyX3_ok nmX3 3 (by decide) hw9 rfl hin2 rfl (tyX3_ok 3 (by decide)) rfl rfl hO (Nat.le_of_ble_eq_true rfl) hS (by unfold gA; omega) dX3_init_29 (fun H6 locs hO hF hz hS => ?_)
  have hO : gO G y 3 [.ref (y + 1), .int (nI 0), .ref (y + 2), .ref (y + 11), .null, .null, .null, .null, .int (nI 0)] H6 := hO
  have hzd := hzd.fr hF (by omega)
  have hzt := hzt.fr hF (by omega)
  have hzs := hzs.fr hF (by omega)
  have hr_zt := hr_zt.fr hF (by omega)
  refine lv_aload_n hx hb dX3_init_32 rfl (lv_at hl 0 rfl) ?_
  refine lv_iconst (v := nI 2) hx hb dX3_init_33 (by decide) ?_
  refine x_newQA (k := 4) (t := .char) (n := 2) hx hb hown hw10 rfl hE.2.1.2.2.2.2.2.2.2.1 rfl (by decide) hK hS (Nat.le_of_ble_eq_true rfl) (Nat.le_of_ble_eq_true rfl) (Nat.le_of_ble_eq_true rfl) dX3_init_34 (fun ze H7 hze_ze hz0_ze hze hF hz_ze hS => ?_)
  have hlt_hO := hO.lt
  have hlt_hzd := hzd.lt
  have hlt_hzt := hzt.lt
  have hlt_hzs := hzs.lt
  have hO := hO.fr hF (by omega)
  have hzd := hzd.fr hF (by omega)
  have hzt := hzt.fr hF (by omega)
  have hzs := hzs.fr hF (by omega)
  have hr_zt := hr_zt.fr hF (by omega)
  obtain rfl : ze = y + 12 := by omega
  refine x_putF (ci := 3) hx hb hts hown hK rfl hw5 tyX3_ok nmX3 4 (by decide) hw11 rfl hin2 rfl (tyX3_ok 4 (by decide)) rfl rfl hO (Nat.le_of_ble_eq_true rfl) hS (by unfold gA; omega) dX3_init_37 (fun H8 locs hO hF hz hS => ?_)
  have hO : gO G y 3 [.ref (y + 1), .int (nI 0), .ref (y + 2), .ref (y + 11), .ref (y + 12), .null, .null, .null, .int (nI 0)] H8 := hO
  have hzd := hzd.fr hF (by omega)
  have hzt := hzt.fr hF (by omega)
  have hzs := hzs.fr hF (by omega)
  have hze := hze.fr hF (by omega)
  have hr_zt := hr_zt.fr hF (by omega)
  refine lv_aload_n hx hb dX3_init_40 rfl (lv_at hl 0 rfl) ?_
  refine lv_iconst (v := nI 2) hx hb dX3_init_41 (by decide) ?_
  refine lv_iconst (v := nI 3) hx hb dX3_init_42 (by decide) ?_
  refine x_multi2 (k1 := 3) (k2 := 1) (n := 2) (j := 3) (ty := .int) hx hb hown hw12 rfl hE.2.1.2.2.2.2.2.2.1 hw8 rfl (by decide) (by decide) hK hS (Nat.le_of_ble_eq_true rfl) (Nat.le_of_ble_eq_true rfl) (Nat.le_of_ble_eq_true rfl) (Nat.le_of_ble_eq_true rfl) dX3_init_43 (fun zm H9 hze_zm hz0_zm hzm hr_zm hF hz_zm hS => ?_)
  have hlt_hO := hO.lt
  have hlt_hzd := hzd.lt
  have hlt_hzt := hzt.lt
  have hlt_hzs := hzs.lt
  have hlt_hze := hze.lt
  have hO := hO.fr hF (by omega)
  have hzd := hzd.fr hF (by omega)
  have hzt := hzt.fr hF (by omega)
  have hzs := hzs.fr hF (by omega)
  have hze := hze.fr hF (by omega)
  have hr_zt := hr_zt.fr hF (by omega)
  obtain rfl : zm = y + 13 := by omega
  refine x_putF (ci := 3) hx hb hts hown hK rfl hw5 tyX3_ok nmX3 5 (by decide) hw13 rfl hin2 rfl (tyX3_ok 5 (by decide)) rfl rfl hO (Nat.le_of_ble_eq_true rfl) hS (by unfold gA; omega) dX3_init_47 (fun H10 locs hO hF hz hS => ?_)
  have hO : gO G y 3 [.ref (y + 1), .int (nI 0), .ref (y + 2), .ref (y + 11), .ref (y + 12), .ref (y + 13), .null, .null, .int (nI 0)] H10 := hO
  have hzd := hzd.fr hF (by omega)
  have hzt := hzt.fr hF (by omega)
  have hzs := hzs.fr hF (by omega)
  have hze := hze.fr hF (by omega)
  have hzm := hzm.fr hF (by omega)
  have hr_zt := hr_zt.fr hF (by omega)
  have hr_zm := hr_zm.fr hF (by omega)
  refine lv_aload_n hx hb dX3_init_50 rfl (lv_at hl 0 rfl) ?_
  refine lv_iconst (v := nI 2) hx hb dX3_init_51 (by decide) ?_
  refine lv_iconst (v := nI 3) hx hb dX3_init_52 (by decide) ?_
  refine lv_bipush (v := nI 60) hx hb dX3_init_53 (by decide) ?_
  refine x_multi3 (n := 3) (j := 60) hx hb hown hw14 rfl hE.2.1.2.2.2.2.2.2.2.2 hE.2.1.2.2.2.2.2.2.1 hw8 hK hS (Nat.le_of_ble_eq_true rfl) (Nat.le_of_ble_eq_true rfl) (Nat.le_of_ble_eq_true rfl) (Nat.le_of_ble_eq_true rfl) dX3_init_55 (fun zst H11 hze_zst hz0_zst hzst hm_zst hr_zst hF hz_zst hS => ?_)
  have hlt_hO := hO.lt
  have hlt_hzd := hzd.lt
  have hlt_hzt := hzt.lt
  have hlt_hzs := hzs.lt
  have hlt_hze := hze.lt
  have hlt_hzm := hzm.lt
  have hO := hO.fr hF (by omega)
  have hzd := hzd.fr hF (by omega)
  have hzt := hzt.fr hF (by omega)
  have hzs := hzs.fr hF (by omega)
  have hze := hze.fr hF (by omega)
  have hzm := hzm.fr hF (by omega)
  have hr_zt := hr_zt.fr hF (by omega)
  have hr_zm := hr_zm.fr hF (by omega)
  have hr_zst := Grd.of hzst hm_zst hr_zst
  obtain rfl : zst = y + 16 := by omega
  refine x_putF (ci := 3) hx hb hts hown hK rfl hw5 tyX3_ok nmX3 6 (by decide) hw15 rfl hin2 rfl (tyX3_ok 6 (by decide)) rfl rfl hO (Nat.le_of_ble_eq_true rfl) hS (by unfold gA; omega) dX3_init_59 (fun H12 locs hO hF hz hS => ?_)
  have hO : gO G y 3 [.ref (y + 1), .int (nI 0), .ref (y + 2), .ref (y + 11), .ref (y + 12), .ref (y + 13), .ref (y + 16), .null, .int (nI 0)] H12 := hO
  have hzd := hzd.fr hF (by omega)
  have hzt := hzt.fr hF (by omega)
  have hzs := hzs.fr hF (by omega)
  have hze := hze.fr hF (by omega)
  have hzm := hzm.fr hF (by omega)
  have hr_zt := hr_zt.fr hF (by omega)
  have hr_zm := hr_zm.fr hF (by omega)
  have hr_zst := hr_zst.fr hF (by omega)
  refine lv_aload_n hx hb dX3_init_62 rfl (lv_at hl 0 rfl) ?_
  refine lv_iconst (v := nI 2) hx hb dX3_init_63 (by decide) ?_
  refine lv_iconst (v := nI 3) hx hb dX3_init_64 (by decide) ?_
  refine lv_bipush (v := nI 60) hx hb dX3_init_65 (by decide) ?_
  refine x_multi3 (n := 3) (j := 60) hx hb hown hw14 rfl hE.2.1.2.2.2.2.2.2.2.2 hE.2.1.2.2.2.2.2.2.1 hw8 hK hS (Nat.le_of_ble_eq_true rfl) (Nat.le_of_ble_eq_true rfl) (Nat.le_of_ble_eq_true rfl) (Nat.le_of_ble_eq_true rfl) dX3_init_67 (fun zen H13 hze_zen hz0_zen hzen hm_zen hr_zen hF hz_zen hS => ?_)
  have hlt_hO := hO.lt
  have hlt_hzd := hzd.lt
  have hlt_hzt := hzt.lt
  have hlt_hzs := hzs.lt
  have hlt_hze := hze.lt
  have hlt_hzm := hzm.lt
  have hO := hO.fr hF (by omega)
  have hzd := hzd.fr hF (by omega)
  have hzt := hzt.fr hF (by omega)
  have hzs := hzs.fr hF (by omega)
  have hze := hze.fr hF (by omega)
  have hzm := hzm.fr hF (by omega)
  have hr_zt := hr_zt.fr hF (by omega)
  have hr_zm := hr_zm.fr hF (by omega)
  have hr_zst := hr_zst.fr hF (by omega)
  have hr_zen := Grd.of hzen hm_zen hr_zen
  obtain rfl : zen = y + 25 := by omega
  refine x_putF (ci := 3) hx hb hts hown hK rfl hw5 tyX3_ok nmX3 7 (by decide) hw16 rfl hin2 rfl (tyX3_ok 7 (by decide)) rfl rfl hO (Nat.le_of_ble_eq_true rfl) hS (by unfold gA; omega) dX3_init_71 (fun H14 locs hO hF hz hS => ?_)
  have hO : gO G y 3 [.ref (y + 1), .int (nI 0), .ref (y + 2), .ref (y + 11), .ref (y + 12), .ref (y + 13), .ref (y + 16), .ref (y + 25), .int (nI 0)] H14 := hO
  have hzd := hzd.fr hF (by omega)
  have hzt := hzt.fr hF (by omega)
  have hzs := hzs.fr hF (by omega)
  have hze := hze.fr hF (by omega)
  have hzm := hzm.fr hF (by omega)
  have hr_zt := hr_zt.fr hF (by omega)
  have hr_zm := hr_zm.fr hF (by omega)
  have hr_zst := hr_zst.fr hF (by omega)
  have hr_zen := hr_zen.fr hF (by omega)
  have hTX : TXs G y 0 H14 := ⟨fun k hk => absurd hk (Nat.not_lt_zero _), fun k _ hk => hr_zt k hk⟩
  refine lv_iconst (v := nI 0) hx hb dX3_init_74 (by decide) ?_
  refine lv_istore_n (lv' := [(1, .int (nI 0)), (0, .ref y)]) hx hb dX3_init_75 rfl hl (by decide) rfl (fun ls hl => ?_)
  have loop76 : ∀ (fu : Nat) (i : Nat) (q : Nat → Int32) (hi : i ≤ 8) (hsz : ∀ k, k < i → q k = nI 1) (H : Heap) (locs : List Loc) (hS : va_S (gA y (y + 1) H0.size) H0 H locs) (hO : gO G y 3 [.ref (y + 1), .int (nI 0), .ref (y + 2), .ref (y + 11), .ref (y + 12), .ref (y + 13), .ref (y + 16), .ref (y + 25), .int (nI 0)] H) (hzd : gI G (y + 1) 0 60 (fun _ => nI 0) H) (hzt : gQ G (y + 2) 4 8 (fun i => if i < 8 then some ((y + 2) + 1 + i) else none) H) (hzs : gI G (y + 11) 1 8 q H) (hze : gQ G (y + 12) 4 2 (fun _ => none) H) (hzm : gQ G (y + 13) 3 2 (fun i => if i < 2 then some ((y + 13) + 1 + i) else none) H) (hr_zm : Rws G (y + 13) 2 1 3 H) (hr_zst : Grd G (y + 16) H) (hr_zen : Grd G (y + 25) H) (hTX : TXs G y i H) (ls : Array Slot), 8 - i < fu → lv_has ls 2 [(1, .int (nI i)), (0, .ref y)] → W p l e RMX3_init s m args below meth c H locs (0 + 1 + (1 + 8) + 1 + 1 + (1 + 2) + (3 + 2 * 3) + (3 + 2 * 3)) (0 + 60 + (8 + 8 * 60) + 8 + 2 + (2 + 2 * 3) + (2 + 2 * (3 + 3 * 60)) + (2 + 2 * (3 + 3 * 60))) (XQ below args s H0 y (y + 1) 33 1302 (qV (fun H1 => MI G y H1)) xN) (F0 m 76 ls []) := by
    intro fu76
    induction fu76 with
    | zero => intro i q hi hsz H locs hS hO hzd hzt hzs hze hzm hr_zm hr_zst hr_zen hTX ls hmu; exact absurd hmu (Nat.not_lt_zero _)
    | succ fu76 ih76 =>
      intro i q hi hsz H locs hS hO hzd hzt hzs hze hzm hr_zm hr_zst hr_zen hTX ls hmu76 hl
      refine lv_iload_n hx hb dX3_init_76 rfl (lv_at hl 0 rfl) ?_
      refine lv_bipush (v := nI 8) hx hb dX3_init_77 (by decide) ?_
      refine x_icmp_ge (tgt := 105) hx hb (by omega) (by omega) dX3_init_79 (by decide) (fun c79 => ?_) (fun c79 => ?_)
      · exact x_vret hx hb hr hlocks h0 hS (by omega) (by omega) dX3_init_105 (⟨hO, ⟨_, hzd, fun i hi => absurd hi (Nat.not_lt_zero _), by decide, fun c hc => absurd hc List.not_mem_nil⟩, ⟨_, hzt, fun i hi => if_pos hi⟩, ⟨_, hzs, fun k hk => hsz k (by omega)⟩, fun k hk => hTX.1 k (by omega), by have h := hzm; rw [rwk_1] at h; exact h, hr_zst.1, hr_zen.1, fun s hs => ⟨hr_zst.2.1 s hs, hr_zen.2.1 s hs⟩, ⟨_, hze, fun s _ z h => by cases h⟩, fun s hs => ⟨_, hr_zm s hs, fun z h => by cases h⟩, fun s hs r hr => ⟨_, _, hr_zst.2.2 s r hs hr, hr_zen.2.2 s r hs hr, fun z h => by cases h⟩⟩)
      · refine lv_aload_n hx hb dX3_init_82 rfl (lv_at hl 1 rfl) ?_
        refine x_get (ci := 3) hx hb hts hown hK rfl hw5 2 (by decide) hw7 hO rfl dX3_init_83 ?_
        refine lv_iload_n hx hb dX3_init_86 rfl (lv_at hl 0 rfl) ?_
        refine x_aald (k := 4) (v := ((y + 2) + 1 + i)) hx hb hK (by decide) rfl hzt (by omega) (by decide) (if_pos (by omega)) dX3_init_87 ?_
        have hrow : gI G (y + 2 + 1 + i) 0 60 (fun _ => nI 0) H := hTX.2 i (Nat.le_refl _) (by omega)
        refine lv_iconst (v := nI 0) hx hb dX3_init_88 (by decide) ?_
        refine lv_bipush (v := nI 48) hx hb dX3_init_89 (by decide) ?_
        refine x_cast hx hb hK hrow (by omega) (by decide) (by omega) hS (by unfold gA; omega) dX3_init_91 (fun H15 locs hrow hF hz hS => ?_)
        have hO := hO.fr hF (by omega)
        have hzd := hzd.fr hF (by omega)
        have hzt := hzt.fr hF (by omega)
        have hzs := hzs.fr hF (by omega)
        have hze := hze.fr hF (by omega)
        have hzm := hzm.fr hF (by omega)
        have hr_zm := hr_zm.fr hF (by omega)
        have hr_zst := hr_zst.fr hF (by omega)
        have hr_zen := hr_zen.fr hF (by omega)
        have hTX := hTX.step hF hrow
        refine lv_aload_n hx hb dX3_init_92 rfl (lv_at hl 1 rfl) ?_
        refine x_get (ci := 3) hx hb hts hown hK rfl hw5 3 (by decide) hw9 hO rfl dX3_init_93 ?_
        refine lv_iload_n hx hb dX3_init_96 rfl (lv_at hl 0 rfl) ?_
        refine lv_iconst (v := nI 1) hx hb dX3_init_97 (by decide) ?_
        refine x_iast hx hb hK hzs (by omega) (by decide) hS (by unfold gA; omega) dX3_init_98 (fun H16 locs hzs hF hz hS => ?_)
        have hO := hO.fr hF (by omega)
        have hzd := hzd.fr hF (by omega)
        have hzt := hzt.fr hF (by omega)
        have hze := hze.fr hF (by omega)
        have hzm := hzm.fr hF (by omega)
        have hr_zm := hr_zm.fr hF (by omega)
        have hr_zst := hr_zst.fr hF (by omega)
        have hr_zen := hr_zen.fr hF (by omega)
        have hTX := hTX.fr hF (by omega) (by omega)
        refine lv_iinc (v := nI (i + 1)) (lv' := [(1, .int (nI (i + 1))), (0, .ref y)]) hx hb dX3_init_99 hl (k := 0) rfl (nI_1 _) (by decide) rfl (fun ls hl => ?_)
        refine lv_goto (tgt := 76) hx hb dX3_init_102 (by decide) ?_
        exact ih76 (i + 1) (upd q i (nI 1)) (by omega) (lt_s (fun a ha => by rw [pk_un (by omega)]; exact hsz a ha) pk_us) H16 _ hS hO hzd hzt hzs hze hzm hr_zm hr_zst hr_zen hTX ls (by omega) (lv_sub hl [0, 1] rfl)
  exact loop76 _ 0 (fun _ => nI 0) (by omega) lt_0 H14 _ hS hO hzd hzt hzs hze hzm hr_zm hr_zst hr_zen hTX ls (Nat.lt_succ_self _) (lv_sub hl [0, 1] rfl)
