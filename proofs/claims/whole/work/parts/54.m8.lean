abbrev RMX3_longer : Room := { frames := 1, cells := 1, slots := 60, locals := 12 }
set_option maxHeartbeats 4000000 in
set_option maxRecDepth 100000 in
theorem c_X3_longer (l : Launch) (G : gG) (y T : Nat) (L : List Nat) (txt : Nat → List Nat) (tad : Nat → Nat) (th : Int32) (i : Nat) (hi8 : i < 8) (H0 : Heap) (hMT : MT G y T L txt tad th H0) : XM l yX3_longer wsX3_longer RMX3_longer G [.ref y, .int (nI i)] H0 0 0 1 60 (qR (fun r H1 => H0.size ≤ r ∧ ∃ f : Nat → Int32, gI G r 0 60 f H1 ∧ ∀ j, j < (txt i).length → f j = nI (cg (txt i) j))) xN := by
  refine x_ofW (cc := cX3_longer) (maxL := 4) (ret := (some (.array .char))) (by decide) rfl (Nat.le_of_ble_eq_true rfl) ?_
  intro p e s m below meth c hx hb hr hml hown hts hlocks hout hin2 h0 hE ls hl
  replace hown : s.vm.findClass RX3 = some m.cls := hown
  have hK := hE.1
  have hS : va_S (gA 0 0 H0.size) H0 H0 [] := va_S.rf
  generalize hargs : ([.ref y, .int (nI i)] : List Value).toArray = args at hts ⊢
  have hw0 := hts (.arrayClass .char) (by decide +kernel)
  have hw1 := hts (.fieldLink RX3 18 "ReleaseledgerModel" "sizes" "[I") (by decide +kernel)
  have hw2 : ∀ w ∈ u_ws RX3 TX3 9, w ∈ wsX3_longer := by decide +kernel
  have hw3 := hts (.fieldLink RX3 15 "ReleaseledgerModel" "texts" "[[C") (by decide +kernel)
  have hl : lv_has ls 4 [(0, .ref y), (1, .int (nI i))] := hl
  obtain ⟨hO, hTd, ⟨f2, hf2, hf2b⟩, ⟨f11, hf11, hf11b⟩, htx, hLd, hyT, hTs⟩ := id hMT
  have hrg := hMT.rg hi8
  have hle := (hMT.gt hi8).le
  refine lv_bipush (v := nI 60) hx hb dX3_longer_0 (by decide) ?_
  refine x_newC (n := 60) hx hb hK hS hw0 (by decide) (Nat.le_of_ble_eq_true rfl) (Nat.le_of_ble_eq_true rfl) dX3_longer_2 (fun zq H1 hze_zq hz0_zq hzq hF hz_zq hS => ?_)
  have hlt_hO := hO.lt
  have hlt_hf2 := hf2.lt
  have hlt_hf11 := hf11.lt
  have hO := hO.fr hF (by omega)
  have hf2 := hf2.fr hF (by omega)
  have hf11 := hf11.fr hF (by omega)
  have hMT := hMT.fr hF (by omega)
  refine lv_astore_n (lv' := [(2, .ref zq), (0, .ref y), (1, .int (nI i))]) hx hb dX3_longer_4 rfl hl (by decide) rfl (fun ls hl => ?_)
  refine lv_iconst (v := nI 0) hx hb dX3_longer_5 (by decide) ?_
  refine lv_istore_n (lv' := [(3, .int (nI 0)), (2, .ref zq), (0, .ref y), (1, .int (nI i))]) hx hb dX3_longer_6 rfl hl (by decide) rfl (fun ls hl => ?_)
  have loop7 : ∀ (fu : Nat) (j : Nat) (g : Nat → Int32) (hjp : j ≤ (txt i).length) (hcp : ∀ a, a < j → g a = nI (cg (txt i) a)) (H : Heap) (locs : List Loc) (hS : va_S (gA 0 0 H0.size) H0 H locs) (hO : gO G y 3 [.ref (y + 1), .int (nI L.length), .ref (y + 2), .ref (y + 11), .ref (y + 12), .ref (y + 13), .ref (y + 16), .ref (y + 25), .int th] H) (hf2 : gQ G (y + 2) 4 8 f2 H) (hf11 : gI G (y + 11) 1 8 f11 H) (hzq : gI G zq 0 60 g H) (hMT : MT G y T L txt tad th H) (ls : Array Slot), (txt i).length - j < fu → lv_has ls 4 [(3, .int (nI j)), (2, .ref zq), (1, .int (nI i)), (0, .ref y)] → W p l e RMX3_longer s m args below meth c H locs (0 + 1) (0 + 60) (XQ below args s H0 0 0 1 60 (qR (fun r H1 => H0.size ≤ r ∧ ∃ f : Nat → Int32, gI G r 0 60 f H1 ∧ ∀ j, j < (txt i).length → f j = nI (cg (txt i) j))) xN) (F0 m 7 ls []) := by
    intro fu7
    induction fu7 with
    | zero => intro j g hjp hcp H locs hS hO hf2 hf11 hzq hMT ls hmu; exact absurd hmu (Nat.not_lt_zero _)
    | succ fu7 ih7 =>
      intro j g hjp hcp H locs hS hO hf2 hf11 hzq hMT ls hmu7 hl
      refine lv_iload_n hx hb dX3_longer_7 rfl (lv_at hl 0 rfl) ?_
      refine lv_aload_n hx hb dX3_longer_8 rfl (lv_at hl 3 rfl) ?_
      refine x_get (ci := 3) hx hb hts hown hK rfl hw2 3 (by decide) hw1 hO rfl dX3_longer_9 ?_
      refine lv_iload_n hx hb dX3_longer_12 rfl (lv_at hl 2 rfl) ?_
      refine x_iald hx hb hK hf11 (by omega) (by decide) dX3_longer_13 ?_
      refine x_rw (z := (nI ((txt i).length))) (hf11b _ (by omega)) ?_
      refine x_icmp_ge (tgt := 34) hx hb (by omega) (by omega) dX3_longer_14 (by decide) (fun c14 => ?_) (fun c14 => ?_)
      · refine lv_aload_n hx hb dX3_longer_34 rfl (lv_at hl 1 rfl) ?_
        exact x_aret hx hb hr (by first | exact Or.inl ⟨_, rfl⟩ | exact Or.inr ⟨_, rfl⟩) hlocks h0 hS (by omega) (by omega) dX3_longer_35 (⟨hz0_zq, _, hzq, fun a ha => hcp a (by omega)⟩)
      · obtain ⟨ft_a, hTa_a, hTf_a, hTn_a, hTc_a⟩ := (hMT.tx (i := i) hi8)
        have hcl := hTc_a _ (cg_mem (L := txt i) (i := j) (by omega))
        refine lv_aload_n hx hb dX3_longer_17 rfl (lv_at hl 1 rfl) ?_
        refine lv_iload_n hx hb dX3_longer_18 rfl (lv_at hl 0 rfl) ?_
        refine lv_aload_n hx hb dX3_longer_19 rfl (lv_at hl 3 rfl) ?_
        refine x_get (ci := 3) hx hb hts hown hK rfl hw2 2 (by decide) hw3 hO rfl dX3_longer_20 ?_
        refine lv_iload_n hx hb dX3_longer_23 rfl (lv_at hl 2 rfl) ?_
        refine x_aald (k := 4) (v := (tad i)) hx hb hK (by decide) rfl hf2 (by omega) (by decide) (hf2b _ (by omega)) dX3_longer_24 ?_
        refine lv_iload_n hx hb dX3_longer_25 rfl (lv_at hl 0 rfl) ?_
        refine x_cald hx hb hK hTa_a (by omega) (by decide) dX3_longer_26 ?_
        refine x_rw (z := (nI (cg (txt i) j))) (hTf_a _ (by omega)) ?_
        refine x_cast hx hb hK hzq (by omega) (by decide) (by omega) hS (by unfold gA; omega) dX3_longer_27 (fun H2 locs hzq hF hz hS => ?_)
        have hO := hO.fr hF (by omega)
        have hf2 := hf2.fr hF (by omega)
        have hf11 := hf11.fr hF (by omega)
        have hTa_a := hTa_a.fr hF (by omega)
        have hMT := hMT.fr hF (by omega)
        refine lv_iinc (v := nI (j + 1)) (lv' := [(3, .int (nI (j + 1))), (2, .ref zq), (1, .int (nI i)), (0, .ref y)]) hx hb dX3_longer_28 hl (k := 0) rfl (nI_1 _) (by decide) rfl (fun ls hl => ?_)
        refine lv_goto (tgt := 7) hx hb dX3_longer_31 (by decide) ?_
        exact ih7 (j + 1) (upd g j (nI (cg (txt i) j))) (by omega) (up_ext hcp) H2 _ hS hO hf2 hf11 hzq hMT ls (by omega) (lv_sub hl [0, 1, 2, 3] rfl)
  exact loop7 _ 0 (fun _ => nI 0) (by omega) lt_0 H1 _ hS hO hf2 hf11 hzq hMT ls (Nat.lt_succ_self _) (lv_sub hl [0, 1, 3, 2] rfl)

abbrev RMX3_hasRoom : Room := { frames := 2, cells := 0, slots := 0, locals := 34 }
set_option maxHeartbeats 4000000 in
set_option maxRecDepth 100000 in
theorem c_X3_hasRoom (l : Launch) (G : gG) (y T : Nat) (L : List Nat) (txt : Nat → List Nat) (tad : Nat → Nat) (th : Int32) (i n : Nat) (hi8 : i < 8) (hn9 : n < 1000000000) (H0 : Heap) (hMT : MT G y T L txt tad th H0) : XM l yX3_hasRoom wsX3_hasRoom RMX3_hasRoom G [.ref y, .int (nI i), .int (nI n)] H0 0 0 0 0 (roI H0 (bI (decide ((txt i).length + (1 + dgs n) ≤ 60))) True) xN := by
  refine x_ofW (cc := cX3_hasRoom) (maxL := 3) (ret := (some .boolean)) (by decide) rfl (Nat.le_of_ble_eq_true rfl) ?_
  intro p e s m below meth c hx hb hr hml hown hts hlocks hout hin2 h0 hE ls hl
  replace hown : s.vm.findClass RX3 = some m.cls := hown
  have hK := hE.1
  have hS : va_S (gA 0 0 H0.size) H0 H0 [] := va_S.rf
  generalize hargs : ([.ref y, .int (nI i), .int (nI n)] : List Value).toArray = args at hts ⊢
  have hw0 := hts (.fieldLink RX3 18 "ReleaseledgerModel" "sizes" "[I") (by decide +kernel)
  have hw1 : ∀ w ∈ u_ws RX3 TX3 9, w ∈ wsX3_hasRoom := by decide +kernel
  have hl : lv_has ls 3 [(0, .ref y), (1, .int (nI i)), (2, .int (nI n))] := hl
  obtain ⟨hO, hTd, ⟨f2, hf2, hf2b⟩, ⟨f11, hf11, hf11b⟩, htx, hLd, hyT, hTs⟩ := id hMT
  have hle := (hMT.gt hi8).le
  refine lv_aload_n hx hb dX3_hasRoom_0 rfl (lv_at hl 0 rfl) ?_
  refine x_get (ci := 3) hx hb hts hown hK rfl hw1 3 (by decide) hw0 hO rfl dX3_hasRoom_1 ?_
  refine lv_iload_n hx hb dX3_hasRoom_4 rfl (lv_at hl 1 rfl) ?_
  refine x_iald hx hb hK hf11 (by omega) (by decide) dX3_hasRoom_5 ?_
  refine x_rw (z := (nI ((txt i).length))) (hf11b _ (by omega)) ?_
  refine lv_iconst (v := nI 1) hx hb dX3_hasRoom_6 (by decide) ?_
  refine lv_iadd hx hb dX3_hasRoom_7 ?_
  refine x_rw (z := nI (((txt i).length) + 1)) (nI_add _ _) ?_
  refine lv_iload_n hx hb dX3_hasRoom_8 rfl (lv_at hl 2 rfl) ?_
  refine x_goI_ro (x_runS (As := [.int (nI n)]) (rest := [.int (nI (((txt i).length) + 1))]) ⟨hx, hb, hml, hown, hts⟩ hE h0 hS (c_X3_length l G n (by omega) H0) (va_cwS 1 hts gX3_hasRoom_X3_length rfl rfl rfl (by decide +kernel) ⟨Nat.le_of_ble_eq_true rfl, Nat.le_of_ble_eq_true rfl⟩) (by omega) rfl rfl hl.1 rfl (lv_room (Nat.le_of_ble_eq_true rfl)) dX3_hasRoom_9 ⟨by first | exact Nat.le_of_ble_eq_true rfl | omega, by first | exact Nat.le_of_ble_eq_true rfl | omega⟩) hS (by omega) (fun _ _ _ _ _ h => h.elim) (fun locs hq hS => ?_)
  have hd0_n := dgs_pos n
  have hd9_n := dgs_lo (n := n) (by omega)
  refine lv_iadd hx hb dX3_hasRoom_12 ?_
  refine x_rw (z := nI ((((txt i).length) + 1) + (dgs n))) (nI_add _ _) ?_
  refine lv_bipush (v := nI 60) hx hb dX3_hasRoom_13 (by decide) ?_
  refine x_icmp_gt (tgt := 22) hx hb (by omega) (by omega) dX3_hasRoom_15 (by decide) (fun c15 => ?_) (fun c15 => ?_)
  · refine lv_iconst (v := nI 0) hx hb dX3_hasRoom_22 (by decide) ?_
    exact x_zret hx hb hr hlocks h0 hS (by omega) (by omega) dX3_hasRoom_23 (by first | rfl | exact bI_nar _) (⟨rfl, by rw [decide_eq_false (p := (txt i).length + (1 + dgs n) ≤ 60) (by omega)]; rfl, trivial⟩)
  · refine lv_iconst (v := nI 1) hx hb dX3_hasRoom_18 (by decide) ?_
    refine lv_goto (tgt := 23) hx hb dX3_hasRoom_19 (by decide) ?_
    exact x_zret hx hb hr hlocks h0 hS (by omega) (by omega) dX3_hasRoom_23 (by first | rfl | exact bI_nar _) (⟨rfl, by rw [decide_eq_true (p := (txt i).length + (1 + dgs n) ≤ 60) (by omega)]; rfl, trivial⟩)

abbrev RMX3_behind : Room := { frames := 6, cells := 2, slots := 62, locals := 127 }
set_option maxHeartbeats 4000000 in
set_option maxRecDepth 100000 in
theorem c_X3_behind (l : Launch) (G : gG) (y T : Nat) (L : List Nat) (txt : Nat → List Nat) (tad : Nat → Nat) (th : Int32) (w : Wt) (i ch n j : Nat) (hi8 : i < 8) (hj8 : j < 8) (hch : ch < 65536) (hn9 : n < 1000000000) (hlen : (txt i).length + (1 + dgs n) ≤ 60) (gP : Gt (txt i ++ [ch] ++ dg n)) (H0 : Heap) (hMT : MT G y T L txt tad th H0) (hLA : LA G y w H0) : XM l yX3_behind wsX3_behind RMX3_behind G [.ref y, .int (nI i), .int (nI ch), .int (nI n), .int (nI j)] H0 y (y + 34) 2 62 (qI (fun r H1 => r = ordr (txt i ++ [ch] ++ dg n) (txt i) ∧ MW G y L (up txt j (txt i ++ [ch] ++ dg n)) th H1)) xN := by
  refine x_ofW (cc := cX3_behind) (maxL := 6) (ret := (some .int)) (by decide) rfl (Nat.le_of_ble_eq_true rfl) ?_
  intro p e s m below meth c hx hb hr hml hown hts hlocks hout hin2 h0 hE ls hl
  replace hown : s.vm.findClass RX3 = some m.cls := hown
  have hK := hE.1
  have hS : va_S (gA y (y + 34) H0.size) H0 H0 [] := va_S.rf
  generalize hargs : ([.ref y, .int (nI i), .int (nI ch), .int (nI n), .int (nI j)] : List Value).toArray = args at hts ⊢
  have hw0 := hts (.fieldLink RX3 18 "ReleaseledgerModel" "sizes" "[I") (by decide +kernel)
  have hw1 : ∀ w ∈ u_ws RX3 TX3 9, w ∈ wsX3_behind := by decide +kernel
  have hl : lv_has ls 6 [(0, .ref y), (1, .int (nI i)), (2, .int (nI ch)), (3, .int (nI n)), (4, .int (nI j))] := hl
  obtain ⟨hO, hTd, ⟨f2, hf2, hf2b⟩, ⟨f11, hf11, hf11b⟩, htx, hLd, hyT, hTs⟩ := id hMT
  have elen : (txt i ++ [ch] ++ dg n).length = (txt i).length + 1 + dgs n := by rw [List.length_append, List.length_append, List.length_singleton]; rfl
  have hd0 := dgs_pos n
  refine lv_aload_n hx hb dX3_behind_0 rfl (lv_at hl 0 rfl) ?_
  refine lv_iload_n hx hb dX3_behind_1 rfl (lv_at hl 1 rfl) ?_
  have hso := hS.1
  refine x_goR (x_runV (As := [.int (nI i)]) (rest := []) ⟨hx, hb, hml, hown, hts⟩ hE h0 hS (c_X3_longer l G y T L txt tad th i (by omega) H0 hMT) (cwV 1 hts gX3_behind_X3_longer rfl rfl rfl (by decide +kernel) ⟨Nat.le_of_ble_eq_true rfl, Nat.le_of_ble_eq_true rfl⟩) (gO.recv (C := RX3) hK hO rfl) (by omega) rfl rfl hl.1 rfl (lv_room (Nat.le_of_ble_eq_true rfl)) dX3_behind_2 ⟨by first | exact Nat.le_of_ble_eq_true rfl | omega, by first | exact Nat.le_of_ble_eq_true rfl | omega⟩) hS (by omega) (fun _ _ _ _ _ h => h.elim) (fun r2 H1 locs hq hF hS => ?_)
  have hO := hO.fr hF (by omega)
  have hf2 := hf2.fr hF (by omega)
  have hf11 := hf11.fr hF (by omega)
  have hMT := hMT.fr hF (by omega)
  have hLA := hLA.fr hF (by omega)
  obtain ⟨hz0, fz_, hzl, hzf⟩ := hq
  refine lv_astore (lv' := [(5, .ref r2), (0, .ref y), (1, .int (nI i)), (2, .int (nI ch)), (3, .int (nI n)), (4, .int (nI j))]) hx hb dX3_behind_5 hl (by decide) rfl (fun ls hl => ?_)
  refine lv_aload hx hb dX3_behind_7 (lv_at hl 0 rfl) ?_
  refine lv_aload_n hx hb dX3_behind_9 rfl (lv_at hl 1 rfl) ?_
  refine x_get (ci := 3) hx hb hts hown hK rfl hw1 3 (by decide) hw0 hO rfl dX3_behind_10 ?_
  refine lv_iload_n hx hb dX3_behind_13 rfl (lv_at hl 2 rfl) ?_
  refine x_iald hx hb hK hf11 (by omega) (by decide) dX3_behind_14 ?_
  refine x_rw (z := (nI ((txt i).length))) (hf11b _ (by omega)) ?_
  refine lv_iload_n hx hb dX3_behind_15 rfl (lv_at hl 3 rfl) ?_
  refine x_cast hx hb hK hzl (by omega) (by decide) (by omega) hS (by unfold gA; omega) dX3_behind_16 (fun H3 locs hzl hF hz hS => ?_)
  have hO := hO.fr hF (by omega)
  have hf2 := hf2.fr hF (by omega)
  have hf11 := hf11.fr hF (by omega)
  have hMT := hMT.fr hF (by omega)
  have hLA := hLA.fr hF (by omega)
  refine lv_aload_n hx hb dX3_behind_17 rfl (lv_at hl 1 rfl) ?_
  refine lv_iload_n hx hb dX3_behind_18 rfl (lv_at hl 2 rfl) ?_
  refine lv_aload hx hb dX3_behind_19 (lv_at hl 0 rfl) ?_
  refine lv_aload hx hb dX3_behind_21 (lv_at hl 0 rfl) ?_
  refine lv_aload_n hx hb dX3_behind_23 rfl (lv_at hl 1 rfl) ?_
  refine x_get (ci := 3) hx hb hts hown hK rfl hw1 3 (by decide) hw0 hO rfl dX3_behind_24 ?_
  refine lv_iload_n hx hb dX3_behind_27 rfl (lv_at hl 2 rfl) ?_
  refine x_iald hx hb hK hf11 (by omega) (by decide) dX3_behind_28 ?_
  refine x_rw (z := (nI ((txt i).length))) (hf11b _ (by omega)) ?_
  refine lv_iconst (v := nI 1) hx hb dX3_behind_29 (by decide) ?_
  refine lv_iadd hx hb dX3_behind_30 ?_
  refine x_rw (z := nI (((txt i).length) + 1)) (nI_add _ _) ?_
  refine lv_iload_n hx hb dX3_behind_31 rfl (lv_at hl 4 rfl) ?_
  refine lv_iconst (v := nI 0) hx hb dX3_behind_32 (by decide) ?_
  refine x_goI (x_runS (As := [.ref r2, .int (nI (((txt i).length) + 1)), .int (nI n), .int (nI 0)]) (rest := [.ref r2, .int (nI i), .ref y]) ⟨hx, hb, hml, hown, hts⟩ hE h0 hS (c_X3_digits l G r2 ((txt i).length + 1) n 0 (upd fz_ ((txt i).length) (nI ch)) hn9 (by omega) (by omega) H3 hzl) (va_cwS 4 hts gX3_behind_X3_digits rfl rfl rfl (by decide +kernel) ⟨Nat.le_of_ble_eq_true rfl, Nat.le_of_ble_eq_true rfl⟩) (by omega) rfl rfl hl.1 rfl (lv_room (Nat.le_of_ble_eq_true rfl)) dX3_behind_33 ⟨by first | exact Nat.le_of_ble_eq_true rfl | omega, by first | exact Nat.le_of_ble_eq_true rfl | omega⟩) hS (by omega) (fun _ _ _ _ _ h => h.elim) (fun r5 H4 locs hq hF hS => ?_)
  have hO := hO.fr hF (by omega)
  have hf2 := hf2.fr hF (by omega)
  have hf11 := hf11.fr hF (by omega)
  have hMT := hMT.fr hF (by omega)
  have hLA := hLA.fr hF (by omega)
  obtain ⟨hr_, fd2, hz2, hk2, hv2⟩ := hq
  refine x_rw (z := nI (txt i ++ [ch] ++ dg n).length) (by rw [hr_]; exact congrArg nI (by omega)) ?_
  have hT : TA G r2 (txt i ++ [ch] ++ dg n) H4 := TA_mk hz2 (ar_ext (x := ch) hzf hk2 hv2) gP
  refine lv_iload hx hb dX3_behind_36 (lv_at hl 5 rfl) ?_
  refine x_goI (x_runV (As := [.int (nI i), .ref r2, .int (nI ((txt i ++ [ch] ++ dg n).length)), .int (nI j)]) (rest := []) ⟨hx, hb, hml, hown, hts⟩ hE h0 hS (c_X3_put l G y T L txt tad th w i j (by omega) (by omega) r2 (txt i ++ [ch] ++ dg n) gP (by omega) H4 hMT hLA hT) (cwV 4 hts gX3_behind_X3_put rfl rfl rfl (by decide +kernel) ⟨Nat.le_of_ble_eq_true rfl, Nat.le_of_ble_eq_true rfl⟩) (gO.recv (C := RX3) hK hO rfl) (by omega) rfl rfl hl.1 rfl (lv_room (Nat.le_of_ble_eq_true rfl)) dX3_behind_38 ⟨by first | exact Nat.le_of_ble_eq_true rfl | omega, by first | exact Nat.le_of_ble_eq_true rfl | omega⟩) hS (by omega) (fun _ _ _ _ _ h => h.elim) (fun r7 H6 locs hq hF hS => ?_)
  obtain ⟨rfl, hMW2⟩ := hq
  exact x_iret hx hb hr hlocks h0 hS (by omega) (by omega) dX3_behind_41 (⟨rfl, hMW2⟩)

abbrev RMX3_zero : Room := { frames := 7, cells := 2, slots := 62, locals := 152 }
set_option maxHeartbeats 4000000 in
set_option maxRecDepth 100000 in
theorem c_X3_zero (l : Launch) (G : gG) (y : Nat) (L : List Nat) (txt : Nat → List Nat) (th : Int32) (x z : Int32) (H0 : Heap) (hMW : MW G y L txt th H0) : XM l yX3_zero wsX3_zero RMX3_zero G [.ref y, .int x, .int z] H0 y (y + 34) 2 62 (qI (fun r H1 => MR G y (rs2 (okN 8 x ∧ okN 8 z) ((txt (ix x)).length + 2 ≤ 60)) (r = bI (decide (ordr (txt (ix x) ++ [46] ++ dg 0) (txt (ix x)) = 0))) L L (up txt (ix z) (txt (ix x) ++ [46] ++ dg 0)) txt H1)) xN := by
  refine x_ofW (cc := cX3_zero) (maxL := 3) (ret := (some .boolean)) (by decide) rfl (Nat.le_of_ble_eq_true rfl) ?_
  intro p e s m below meth c hx hb hr hml hown hts hlocks hout hin2 h0 hE ls hl
  replace hown : s.vm.findClass RX3 = some m.cls := hown
  have hK := hE.1
  have hS : va_S (gA y (y + 34) H0.size) H0 H0 [] := va_S.rf
  generalize hargs : ([.ref y, .int x, .int z] : List Value).toArray = args at hts ⊢
  have hl : lv_has ls 3 [(0, .ref y), (1, .int x), (2, .int z)] := hl
  obtain ⟨tad, w, hMT, hLA⟩ := hMW
  generalize hTe : H0.size = T at hMT
  obtain ⟨hO, hTd, ⟨f2, hf2, hf2b⟩, ⟨f11, hf11, hf11b⟩, htx, hLd, hyT, hTs⟩ := id hMT
  have hTd0 := hTd
  obtain ⟨fd, hD, hDf, hDn, hDc⟩ := hTd
  have hTe2 : T = H0.size := hTe.symm
  have hd1 : dgs 0 = 1 := dgs_small (by decide)
  refine lv_aload_n hx hb dX3_zero_0 rfl (lv_at hl 0 rfl) ?_
  refine lv_iload_n hx hb dX3_zero_1 rfl (lv_at hl 1 rfl) ?_
  refine x_goI_ro (x_runS (As := [.int x]) (rest := [.ref y]) ⟨hx, hb, hml, hown, hts⟩ hE h0 hS (c_X3_isSlot l G x H0) (va_cwS 1 hts gX3_zero_X3_isSlot rfl rfl rfl (by decide +kernel) ⟨Nat.le_of_ble_eq_true rfl, Nat.le_of_ble_eq_true rfl⟩) (by omega) rfl rfl hl.1 rfl (lv_room (Nat.le_of_ble_eq_true rfl)) dX3_zero_2 ⟨by first | exact Nat.le_of_ble_eq_true rfl | omega, by first | exact Nat.le_of_ble_eq_true rfl | omega⟩) hS (by omega) (fun _ _ _ _ _ h => h.elim) (fun locs hq hS => ?_)
  refine x_if_eqB (tgt := 19) hx hb dX3_zero_5 (by decide) (fun c5 => ?_) (fun c5 => ?_)
  · refine lv_iconst (v := nI 0) hx hb dX3_zero_19 (by decide) ?_
    refine x_rw (z := bI false) (by decide) ?_
    refine lv_iconst (v := nI 1) hx hb dX3_zero_20 (by decide) ?_
    refine x_goI (x_runV (As := [.int (bI false), .int (nI 1)]) (rest := []) ⟨hx, hb, hml, hown, hts⟩ hE h0 hS (c_X3_no l G y (nI L.length) th false 1 H0 hO) (cwV 2 hts gX3_zero_X3_no rfl rfl rfl (by decide +kernel) ⟨Nat.le_of_ble_eq_true rfl, Nat.le_of_ble_eq_true rfl⟩) (gO.recv (C := RX3) hK hO rfl) (by omega) rfl rfl hl.1 rfl (lv_room (Nat.le_of_ble_eq_true rfl)) dX3_zero_21 ⟨by first | exact Nat.le_of_ble_eq_true rfl | omega, by first | exact Nat.le_of_ble_eq_true rfl | omega⟩) hS (by omega) (fun _ _ _ _ _ h => h.elim) (fun r3 H2 locs hq hF hS => ?_)
    have hLA := hLA.fr hF (by omega)
    obtain ⟨hr_, hOn⟩ := hq
    refine x_rw (z := bI true) hr_ ?_
    replace hOn : MO G y (nI L.length) (nI 1) H2 := hOn
    have hMT := hMT.setO hF hOn
    have hO := hOn
    refine x_if_neB (tgt := 41) hx hb dX3_zero_24 (by decide) (fun c24 => ?_) (fun c24 => ?_)
    · refine lv_iconst (v := nI 0) hx hb dX3_zero_41 (by decide) ?_
      exact x_zret hx hb hr hlocks h0 hS (by omega) (by omega) dX3_zero_42 (by first | rfl | exact bI_nar _) (MR.no n10 (rs2_1 (inB_two (n := 7) (by decide) (by first | exact Or.inl c5 | exact Or.inr c12))) (hMT.W hLA))
    · exact absurd c24 (by decide)
  · refine lv_iload_n hx hb dX3_zero_8 rfl (lv_at hl 2 rfl) ?_
    refine x_goI_ro (x_runS (As := [.int z]) (rest := [.ref y]) ⟨hx, hb, hml, hown, hts⟩ hE h0 hS (c_X3_isSlot l G z H0) (va_cwS 1 hts gX3_zero_X3_isSlot rfl rfl rfl (by decide +kernel) ⟨Nat.le_of_ble_eq_true rfl, Nat.le_of_ble_eq_true rfl⟩) (by omega) rfl rfl hl.1 rfl (lv_room (Nat.le_of_ble_eq_true rfl)) dX3_zero_9 ⟨by first | exact Nat.le_of_ble_eq_true rfl | omega, by first | exact Nat.le_of_ble_eq_true rfl | omega⟩) hS (by omega) (fun _ _ _ _ _ h => h.elim) (fun locs hq hS => ?_)
    refine x_if_eqB (tgt := 19) hx hb dX3_zero_12 (by decide) (fun c12 => ?_) (fun c12 => ?_)
    · refine lv_iconst (v := nI 0) hx hb dX3_zero_19 (by decide) ?_
      refine x_rw (z := bI false) (by decide) ?_
      refine lv_iconst (v := nI 1) hx hb dX3_zero_20 (by decide) ?_
      refine x_goI (x_runV (As := [.int (bI false), .int (nI 1)]) (rest := []) ⟨hx, hb, hml, hown, hts⟩ hE h0 hS (c_X3_no l G y (nI L.length) th false 1 H0 hO) (cwV 2 hts gX3_zero_X3_no rfl rfl rfl (by decide +kernel) ⟨Nat.le_of_ble_eq_true rfl, Nat.le_of_ble_eq_true rfl⟩) (gO.recv (C := RX3) hK hO rfl) (by omega) rfl rfl hl.1 rfl (lv_room (Nat.le_of_ble_eq_true rfl)) dX3_zero_21 ⟨by first | exact Nat.le_of_ble_eq_true rfl | omega, by first | exact Nat.le_of_ble_eq_true rfl | omega⟩) hS (by omega) (fun _ _ _ _ _ h => h.elim) (fun r6 H5 locs hq hF hS => ?_)
      have hLA := hLA.fr hF (by omega)
      obtain ⟨hr_, hOn⟩ := hq
      refine x_rw (z := bI true) hr_ ?_
      replace hOn : MO G y (nI L.length) (nI 1) H5 := hOn
      have hMT := hMT.setO hF hOn
      have hO := hOn
      refine x_if_neB (tgt := 41) hx hb dX3_zero_24 (by decide) (fun c24 => ?_) (fun c24 => ?_)
      · refine lv_iconst (v := nI 0) hx hb dX3_zero_41 (by decide) ?_
        exact x_zret hx hb hr hlocks h0 hS (by omega) (by omega) dX3_zero_42 (by first | rfl | exact bI_nar _) (MR.no n10 (rs2_1 (inB_two (n := 7) (by decide) (by first | exact Or.inl c5 | exact Or.inr c12))) (hMT.W hLA))
      · exact absurd c24 (by decide)
    · refine lv_iconst (v := nI 1) hx hb dX3_zero_15 (by decide) ?_
      refine lv_goto (tgt := 20) hx hb dX3_zero_16 (by decide) ?_
      refine x_rw (z := bI true) (by decide) ?_
      refine lv_iconst (v := nI 1) hx hb dX3_zero_20 (by decide) ?_
      refine x_goI (x_runV (As := [.int (bI true), .int (nI 1)]) (rest := []) ⟨hx, hb, hml, hown, hts⟩ hE h0 hS (c_X3_no l G y (nI L.length) th true 1 H0 hO) (cwV 2 hts gX3_zero_X3_no rfl rfl rfl (by decide +kernel) ⟨Nat.le_of_ble_eq_true rfl, Nat.le_of_ble_eq_true rfl⟩) (gO.recv (C := RX3) hK hO rfl) (by omega) rfl rfl hl.1 rfl (lv_room (Nat.le_of_ble_eq_true rfl)) dX3_zero_21 ⟨by first | exact Nat.le_of_ble_eq_true rfl | omega, by first | exact Nat.le_of_ble_eq_true rfl | omega⟩) hS (by omega) (fun _ _ _ _ _ h => h.elim) (fun r8 H7 locs hq hF hS => ?_)
      have hLA := hLA.fr hF (by omega)
      obtain ⟨hr_, hOn⟩ := hq
      refine x_rw (z := bI false) hr_ ?_
      replace hOn : MO G y (nI L.length) 0 H7 := hOn
      have hMT := hMT.setO hF hOn
      have hO := hOn
      refine x_if_neB (tgt := 41) hx hb dX3_zero_24 (by decide) (fun c24 => ?_) (fun c24 => ?_)
      · exact absurd c24 (by decide)
      · obtain ⟨i, hi, rfl⟩ := (inB_okN (n := 7) (by decide)).mp c5
        obtain ⟨j, hj, rfl⟩ := (inB_okN (n := 7) (by decide)).mp c12
        have hgi := hMT.gt (i := i) (by omega)
        have hle_i := hgi.le
        refine lv_aload_n hx hb dX3_zero_27 rfl (lv_at hl 0 rfl) ?_
        refine lv_aload_n hx hb dX3_zero_28 rfl (lv_at hl 0 rfl) ?_
        refine lv_iload_n hx hb dX3_zero_29 rfl (lv_at hl 1 rfl) ?_
        refine lv_iconst (v := nI 0) hx hb dX3_zero_30 (by decide) ?_
        refine x_goI_ro (x_runV (As := [.int (nI i), .int (nI 0)]) (rest := [.ref y]) ⟨hx, hb, hml, hown, hts⟩ hE h0 hS (c_X3_hasRoom l G y T L txt tad 0 i 0 (by omega) (by omega) H7 hMT) (cwV 2 hts gX3_zero_X3_hasRoom rfl rfl rfl (by decide +kernel) ⟨Nat.le_of_ble_eq_true rfl, Nat.le_of_ble_eq_true rfl⟩) (gO.recv (C := RX3) hK hO rfl) (by omega) rfl rfl hl.1 rfl (lv_room (Nat.le_of_ble_eq_true rfl)) dX3_zero_31 ⟨by first | exact Nat.le_of_ble_eq_true rfl | omega, by first | exact Nat.le_of_ble_eq_true rfl | omega⟩) hS (by omega) (fun _ _ _ _ _ h => h.elim) (fun locs hq hS => ?_)
        rcases Bool.eq_false_or_eq_true (decide ((txt i).length + (1 + dgs 0) ≤ 60)) with hrm | hrm
        · refine x_rw (z := bI true) (congrArg bI hrm) ?_
          refine lv_iconst (v := nI 2) hx hb dX3_zero_34 (by decide) ?_
          refine x_goI (x_runV (As := [.int (bI true), .int (nI 2)]) (rest := []) ⟨hx, hb, hml, hown, hts⟩ hE h0 hS (c_X3_no l G y (nI L.length) 0 true 2 H7 hO) (cwV 2 hts gX3_zero_X3_no rfl rfl rfl (by decide +kernel) ⟨Nat.le_of_ble_eq_true rfl, Nat.le_of_ble_eq_true rfl⟩) (gO.recv (C := RX3) hK hO rfl) (by omega) rfl rfl hl.1 rfl (lv_room (Nat.le_of_ble_eq_true rfl)) dX3_zero_35 ⟨by first | exact Nat.le_of_ble_eq_true rfl | omega, by first | exact Nat.le_of_ble_eq_true rfl | omega⟩) hS (by omega) (fun _ _ _ _ _ h => h.elim) (fun r11 H10 locs hq hF hS => ?_)
          have hLA := hLA.fr hF (by omega)
          obtain ⟨hr_, hOn⟩ := hq
          refine x_rw (z := bI false) hr_ ?_
          replace hOn : MO G y (nI L.length) 0 H10 := hOn
          have hMT := hMT.setO hF hOn
          have hO := hOn
          refine x_if_eqB (tgt := 43) hx hb dX3_zero_38 (by decide) (fun c38 => ?_) (fun c38 => ?_)
          · have hroom := of_decide_eq_true hrm
            have gP : Gt (txt i ++ [46] ++ dg 0) := Gt_dot hgi (by omega) (by omega)
            refine lv_aload_n hx hb dX3_zero_43 rfl (lv_at hl 0 rfl) ?_
            refine lv_iload_n hx hb dX3_zero_44 rfl (lv_at hl 1 rfl) ?_
            refine lv_bipush (v := nI 46) hx hb dX3_zero_45 (by decide) ?_
            refine lv_iconst (v := nI 0) hx hb dX3_zero_47 (by decide) ?_
            refine lv_iload_n hx hb dX3_zero_48 rfl (lv_at hl 2 rfl) ?_
            refine x_goI (x_runV (As := [.int (nI i), .int (nI 46), .int (nI 0), .int (nI j)]) (rest := []) ⟨hx, hb, hml, hown, hts⟩ hE h0 hS (c_X3_behind l G y T L txt tad 0 w i 46 0 j (by omega) (by omega) (by omega) (by omega) (by omega) gP H10 hMT hLA) (cwV 4 hts gX3_zero_X3_behind rfl rfl rfl (by decide +kernel) ⟨Nat.le_of_ble_eq_true rfl, Nat.le_of_ble_eq_true rfl⟩) (gO.recv (C := RX3) hK hO rfl) (by omega) rfl rfl hl.1 rfl (lv_room (Nat.le_of_ble_eq_true rfl)) dX3_zero_49 ⟨by first | exact Nat.le_of_ble_eq_true rfl | omega, by first | exact Nat.le_of_ble_eq_true rfl | omega⟩) hS (by omega) (fun _ _ _ _ _ h => h.elim) (fun r13 H12 locs hq hF hS => ?_)
            obtain ⟨rfl, hMW2⟩ := hq
            refine lv_if_ne (tgt := 59) hx hb dX3_zero_52 (by decide) (fun c52 => ?_) (fun c52 => ?_)
            · refine lv_iconst (v := nI 0) hx hb dX3_zero_59 (by decide) ?_
              exact x_zret hx hb hr hlocks h0 hS (by omega) (by omega) dX3_zero_60 (by first | rfl | exact bI_nar _) (MR.ok (rs2_y ⟨⟨i, hi, rfl⟩, j, hj, rfl⟩ (by rw [ix_N (by omega)]; omega)) (by rw [ix_N (by omega), decide_eq_false c52]; rfl) (by rw [ix_N (by omega), ix_N (by omega)]; exact hMW2))
            · refine lv_iconst (v := nI 1) hx hb dX3_zero_55 (by decide) ?_
              refine lv_goto (tgt := 60) hx hb dX3_zero_56 (by decide) ?_
              exact x_zret hx hb hr hlocks h0 hS (by omega) (by omega) dX3_zero_60 (by first | rfl | exact bI_nar _) (MR.ok (rs2_y ⟨⟨i, hi, rfl⟩, j, hj, rfl⟩ (by rw [ix_N (by omega)]; omega)) (by rw [ix_N (by omega), decide_eq_true c52]; rfl) (by rw [ix_N (by omega), ix_N (by omega)]; exact hMW2))
          · exact absurd c38 (by decide)
        · refine x_rw (z := bI false) (congrArg bI hrm) ?_
          refine lv_iconst (v := nI 2) hx hb dX3_zero_34 (by decide) ?_
          refine x_goI (x_runV (As := [.int (bI false), .int (nI 2)]) (rest := []) ⟨hx, hb, hml, hown, hts⟩ hE h0 hS (c_X3_no l G y (nI L.length) 0 false 2 H7 hO) (cwV 2 hts gX3_zero_X3_no rfl rfl rfl (by decide +kernel) ⟨Nat.le_of_ble_eq_true rfl, Nat.le_of_ble_eq_true rfl⟩) (gO.recv (C := RX3) hK hO rfl) (by omega) rfl rfl hl.1 rfl (lv_room (Nat.le_of_ble_eq_true rfl)) dX3_zero_35 ⟨by first | exact Nat.le_of_ble_eq_true rfl | omega, by first | exact Nat.le_of_ble_eq_true rfl | omega⟩) hS (by omega) (fun _ _ _ _ _ h => h.elim) (fun r15 H14 locs hq hF hS => ?_)
          have hLA := hLA.fr hF (by omega)
          obtain ⟨hr_, hOn⟩ := hq
          refine x_rw (z := bI true) hr_ ?_
          replace hOn : MO G y (nI L.length) (nI 2) H14 := hOn
          have hMT := hMT.setO hF hOn
          have hO := hOn
          refine x_if_eqB (tgt := 43) hx hb dX3_zero_38 (by decide) (fun c38 => ?_) (fun c38 => ?_)
          · exact absurd c38 (by decide)
          · refine lv_iconst (v := nI 0) hx hb dX3_zero_41 (by decide) ?_
            exact x_zret hx hb hr hlocks h0 hS (by omega) (by omega) dX3_zero_42 (by first | rfl | exact bI_nar _) (MR.no n20 (rs2_2 ⟨⟨i, hi, rfl⟩, j, hj, rfl⟩ (by rw [ix_N (by omega)]; have := of_decide_eq_false hrm; omega)) (hMT.W hLA))

abbrev RMX3_longer_ : Room := { frames := 7, cells := 2, slots := 62, locals := 152 }
set_option maxHeartbeats 4000000 in
set_option maxRecDepth 100000 in
theorem c_X3_longer_ (l : Launch) (G : gG) (y : Nat) (L : List Nat) (txt : Nat → List Nat) (th : Int32) (x n z : Int32) (H0 : Heap) (hMW : MW G y L txt th H0) : XM l yX3_longer_ wsX3_longer_ RMX3_longer_ G [.ref y, .int x, .int n, .int z] H0 y (y + 34) 2 62 (qI (fun r H1 => MR G y (rs3 (okN 8 x ∧ okN 8 z) (okP 999 n) ((txt (ix x)).length + (1 + dgs (ix n)) ≤ 60)) (r = bI (decide (0 < ordr (txt (ix x) ++ [46] ++ dg (ix n)) (txt (ix x))))) L L (up txt (ix z) (txt (ix x) ++ [46] ++ dg (ix n))) txt H1)) xN := by
  refine x_ofW (cc := cX3_longer_) (maxL := 4) (ret := (some .boolean)) (by decide) rfl (Nat.le_of_ble_eq_true rfl) ?_
  intro p e s m below meth c hx hb hr hml hown hts hlocks hout hin2 h0 hE ls hl
  replace hown : s.vm.findClass RX3 = some m.cls := hown
  have hK := hE.1
  have hS : va_S (gA y (y + 34) H0.size) H0 H0 [] := va_S.rf
  generalize hargs : ([.ref y, .int x, .int n, .int z] : List Value).toArray = args at hts ⊢
  have hl : lv_has ls 4 [(0, .ref y), (1, .int x), (2, .int n), (3, .int z)] := hl
  obtain ⟨tad, w, hMT, hLA⟩ := hMW
  generalize hTe : H0.size = T at hMT
  obtain ⟨hO, hTd, ⟨f2, hf2, hf2b⟩, ⟨f11, hf11, hf11b⟩, htx, hLd, hyT, hTs⟩ := id hMT
  have hTd0 := hTd
  obtain ⟨fd, hD, hDf, hDn, hDc⟩ := hTd
  have hTe2 : T = H0.size := hTe.symm
  refine lv_aload_n hx hb dX3_longer__0 rfl (lv_at hl 0 rfl) ?_
  refine lv_iload_n hx hb dX3_longer__1 rfl (lv_at hl 1 rfl) ?_
  refine x_goI_ro (x_runS (As := [.int x]) (rest := [.ref y]) ⟨hx, hb, hml, hown, hts⟩ hE h0 hS (c_X3_isSlot l G x H0) (va_cwS 1 hts gX3_longer__X3_isSlot rfl rfl rfl (by decide +kernel) ⟨Nat.le_of_ble_eq_true rfl, Nat.le_of_ble_eq_true rfl⟩) (by omega) rfl rfl hl.1 rfl (lv_room (Nat.le_of_ble_eq_true rfl)) dX3_longer__2 ⟨by first | exact Nat.le_of_ble_eq_true rfl | omega, by first | exact Nat.le_of_ble_eq_true rfl | omega⟩) hS (by omega) (fun _ _ _ _ _ h => h.elim) (fun locs hq hS => ?_)
  refine x_if_eqB (tgt := 19) hx hb dX3_longer__5 (by decide) (fun c5 => ?_) (fun c5 => ?_)
  · refine lv_iconst (v := nI 0) hx hb dX3_longer__19 (by decide) ?_
    refine x_rw (z := bI false) (by decide) ?_
    refine lv_iconst (v := nI 1) hx hb dX3_longer__20 (by decide) ?_
    refine x_goI (x_runV (As := [.int (bI false), .int (nI 1)]) (rest := []) ⟨hx, hb, hml, hown, hts⟩ hE h0 hS (c_X3_no l G y (nI L.length) th false 1 H0 hO) (cwV 2 hts gX3_longer__X3_no rfl rfl rfl (by decide +kernel) ⟨Nat.le_of_ble_eq_true rfl, Nat.le_of_ble_eq_true rfl⟩) (gO.recv (C := RX3) hK hO rfl) (by omega) rfl rfl hl.1 rfl (lv_room (Nat.le_of_ble_eq_true rfl)) dX3_longer__21 ⟨by first | exact Nat.le_of_ble_eq_true rfl | omega, by first | exact Nat.le_of_ble_eq_true rfl | omega⟩) hS (by omega) (fun _ _ _ _ _ h => h.elim) (fun r3 H2 locs hq hF hS => ?_)
    have hLA := hLA.fr hF (by omega)
    obtain ⟨hr_, hOn⟩ := hq
    refine x_rw (z := bI true) hr_ ?_
    replace hOn : MO G y (nI L.length) (nI 1) H2 := hOn
    have hMT := hMT.setO hF hOn
    have hO := hOn
    refine x_if_neB (tgt := 57) hx hb dX3_longer__24 (by decide) (fun c24 => ?_) (fun c24 => ?_)
    · refine lv_iconst (v := nI 0) hx hb dX3_longer__57 (by decide) ?_
      exact x_zret hx hb hr hlocks h0 hS (by omega) (by omega) dX3_longer__58 (by first | rfl | exact bI_nar _) (MR.no n10 (rs3_1 (inB_two (n := 7) (by decide) (by first | exact Or.inl c5 | exact Or.inr c12))) (hMT.W hLA))
    · exact absurd c24 (by decide)
  · refine lv_iload_n hx hb dX3_longer__8 rfl (lv_at hl 3 rfl) ?_
    refine x_goI_ro (x_runS (As := [.int z]) (rest := [.ref y]) ⟨hx, hb, hml, hown, hts⟩ hE h0 hS (c_X3_isSlot l G z H0) (va_cwS 1 hts gX3_longer__X3_isSlot rfl rfl rfl (by decide +kernel) ⟨Nat.le_of_ble_eq_true rfl, Nat.le_of_ble_eq_true rfl⟩) (by omega) rfl rfl hl.1 rfl (lv_room (Nat.le_of_ble_eq_true rfl)) dX3_longer__9 ⟨by first | exact Nat.le_of_ble_eq_true rfl | omega, by first | exact Nat.le_of_ble_eq_true rfl | omega⟩) hS (by omega) (fun _ _ _ _ _ h => h.elim) (fun locs hq hS => ?_)
    refine x_if_eqB (tgt := 19) hx hb dX3_longer__12 (by decide) (fun c12 => ?_) (fun c12 => ?_)
    · refine lv_iconst (v := nI 0) hx hb dX3_longer__19 (by decide) ?_
      refine x_rw (z := bI false) (by decide) ?_
      refine lv_iconst (v := nI 1) hx hb dX3_longer__20 (by decide) ?_
      refine x_goI (x_runV (As := [.int (bI false), .int (nI 1)]) (rest := []) ⟨hx, hb, hml, hown, hts⟩ hE h0 hS (c_X3_no l G y (nI L.length) th false 1 H0 hO) (cwV 2 hts gX3_longer__X3_no rfl rfl rfl (by decide +kernel) ⟨Nat.le_of_ble_eq_true rfl, Nat.le_of_ble_eq_true rfl⟩) (gO.recv (C := RX3) hK hO rfl) (by omega) rfl rfl hl.1 rfl (lv_room (Nat.le_of_ble_eq_true rfl)) dX3_longer__21 ⟨by first | exact Nat.le_of_ble_eq_true rfl | omega, by first | exact Nat.le_of_ble_eq_true rfl | omega⟩) hS (by omega) (fun _ _ _ _ _ h => h.elim) (fun r6 H5 locs hq hF hS => ?_)
      have hLA := hLA.fr hF (by omega)
      obtain ⟨hr_, hOn⟩ := hq
      refine x_rw (z := bI true) hr_ ?_
      replace hOn : MO G y (nI L.length) (nI 1) H5 := hOn
      have hMT := hMT.setO hF hOn
      have hO := hOn
      refine x_if_neB (tgt := 57) hx hb dX3_longer__24 (by decide) (fun c24 => ?_) (fun c24 => ?_)
      · refine lv_iconst (v := nI 0) hx hb dX3_longer__57 (by decide) ?_
        exact x_zret hx hb hr hlocks h0 hS (by omega) (by omega) dX3_longer__58 (by first | rfl | exact bI_nar _) (MR.no n10 (rs3_1 (inB_two (n := 7) (by decide) (by first | exact Or.inl c5 | exact Or.inr c12))) (hMT.W hLA))
      · exact absurd c24 (by decide)
    · refine lv_iconst (v := nI 1) hx hb dX3_longer__15 (by decide) ?_
      refine lv_goto (tgt := 20) hx hb dX3_longer__16 (by decide) ?_
      refine x_rw (z := bI true) (by decide) ?_
      refine lv_iconst (v := nI 1) hx hb dX3_longer__20 (by decide) ?_
      refine x_goI (x_runV (As := [.int (bI true), .int (nI 1)]) (rest := []) ⟨hx, hb, hml, hown, hts⟩ hE h0 hS (c_X3_no l G y (nI L.length) th true 1 H0 hO) (cwV 2 hts gX3_longer__X3_no rfl rfl rfl (by decide +kernel) ⟨Nat.le_of_ble_eq_true rfl, Nat.le_of_ble_eq_true rfl⟩) (gO.recv (C := RX3) hK hO rfl) (by omega) rfl rfl hl.1 rfl (lv_room (Nat.le_of_ble_eq_true rfl)) dX3_longer__21 ⟨by first | exact Nat.le_of_ble_eq_true rfl | omega, by first | exact Nat.le_of_ble_eq_true rfl | omega⟩) hS (by omega) (fun _ _ _ _ _ h => h.elim) (fun r8 H7 locs hq hF hS => ?_)
      have hLA := hLA.fr hF (by omega)
      obtain ⟨hr_, hOn⟩ := hq
      refine x_rw (z := bI false) hr_ ?_
      replace hOn : MO G y (nI L.length) 0 H7 := hOn
      have hMT := hMT.setO hF hOn
      have hO := hOn
      refine x_if_neB (tgt := 57) hx hb dX3_longer__24 (by decide) (fun c24 => ?_) (fun c24 => ?_)
      · exact absurd c24 (by decide)
      · obtain ⟨i, hi, rfl⟩ := (inB_okN (n := 7) (by decide)).mp c5
        obtain ⟨j, hj, rfl⟩ := (inB_okN (n := 7) (by decide)).mp c12
        have hgi := hMT.gt (i := i) (by omega)
        have hle_i := hgi.le
        refine lv_aload_n hx hb dX3_longer__27 rfl (lv_at hl 0 rfl) ?_
        refine lv_iload_n hx hb dX3_longer__28 rfl (lv_at hl 2 rfl) ?_
        refine lv_iconst (v := nI 1) hx hb dX3_longer__29 (by decide) ?_
        refine lv_sipush (v := nI 999) hx hb dX3_longer__30 (by decide) ?_
        refine x_goI_ro (x_runS (As := [.int n, .int (nI 1), .int (nI 999)]) (rest := [.ref y]) ⟨hx, hb, hml, hown, hts⟩ hE h0 hS (c_X3_in l G n (nI 1) (nI 999) H7) (va_cwS 3 hts gX3_longer__X3_in rfl rfl rfl (by decide +kernel) ⟨Nat.le_of_ble_eq_true rfl, Nat.le_of_ble_eq_true rfl⟩) (by omega) rfl rfl hl.1 rfl (lv_room (Nat.le_of_ble_eq_true rfl)) dX3_longer__33 ⟨by first | exact Nat.le_of_ble_eq_true rfl | omega, by first | exact Nat.le_of_ble_eq_true rfl | omega⟩) hS (by omega) (fun _ _ _ _ _ h => h.elim) (fun locs hq hS => ?_)
        rcases Bool.eq_false_or_eq_true (inB n (nI 1) (nI 999)) with hn0 | hn0
        · refine x_rw (z := bI true) (congrArg bI hn0) ?_
          refine lv_iconst (v := nI 2) hx hb dX3_longer__36 (by decide) ?_
          refine x_goI (x_runV (As := [.int (bI true), .int (nI 2)]) (rest := []) ⟨hx, hb, hml, hown, hts⟩ hE h0 hS (c_X3_no l G y (nI L.length) 0 true 2 H7 hO) (cwV 2 hts gX3_longer__X3_no rfl rfl rfl (by decide +kernel) ⟨Nat.le_of_ble_eq_true rfl, Nat.le_of_ble_eq_true rfl⟩) (gO.recv (C := RX3) hK hO rfl) (by omega) rfl rfl hl.1 rfl (lv_room (Nat.le_of_ble_eq_true rfl)) dX3_longer__37 ⟨by first | exact Nat.le_of_ble_eq_true rfl | omega, by first | exact Nat.le_of_ble_eq_true rfl | omega⟩) hS (by omega) (fun _ _ _ _ _ h => h.elim) (fun r11 H10 locs hq hF hS => ?_)
          have hLA := hLA.fr hF (by omega)
          obtain ⟨hr_, hOn⟩ := hq
          refine x_rw (z := bI false) hr_ ?_
          replace hOn : MO G y (nI L.length) 0 H10 := hOn
          have hMT := hMT.setO hF hOn
          have hO := hOn
          refine x_if_neB (tgt := 57) hx hb dX3_longer__40 (by decide) (fun c40 => ?_) (fun c40 => ?_)
          · exact absurd c40 (by decide)
          · obtain ⟨k, hk, rfl⟩ := okNum1b (n := 999) (inB_iff.mp hn0)
            refine lv_aload_n hx hb dX3_longer__43 rfl (lv_at hl 0 rfl) ?_
            refine lv_aload_n hx hb dX3_longer__44 rfl (lv_at hl 0 rfl) ?_
            refine lv_iload_n hx hb dX3_longer__45 rfl (lv_at hl 1 rfl) ?_
            refine lv_iload_n hx hb dX3_longer__46 rfl (lv_at hl 2 rfl) ?_
            refine x_goI_ro (x_runV (As := [.int (nI i), .int (nI k)]) (rest := [.ref y]) ⟨hx, hb, hml, hown, hts⟩ hE h0 hS (c_X3_hasRoom l G y T L txt tad 0 i k (by omega) (by omega) H10 hMT) (cwV 2 hts gX3_longer__X3_hasRoom rfl rfl rfl (by decide +kernel) ⟨Nat.le_of_ble_eq_true rfl, Nat.le_of_ble_eq_true rfl⟩) (gO.recv (C := RX3) hK hO rfl) (by omega) rfl rfl hl.1 rfl (lv_room (Nat.le_of_ble_eq_true rfl)) dX3_longer__47 ⟨by first | exact Nat.le_of_ble_eq_true rfl | omega, by first | exact Nat.le_of_ble_eq_true rfl | omega⟩) hS (by omega) (fun _ _ _ _ _ h => h.elim) (fun locs hq hS => ?_)
            rcases Bool.eq_false_or_eq_true (decide ((txt i).length + (1 + dgs k) ≤ 60)) with hrm | hrm
            · refine x_rw (z := bI true) (congrArg bI hrm) ?_
              refine lv_iconst (v := nI 3) hx hb dX3_longer__50 (by decide) ?_
              refine x_goI (x_runV (As := [.int (bI true), .int (nI 3)]) (rest := []) ⟨hx, hb, hml, hown, hts⟩ hE h0 hS (c_X3_no l G y (nI L.length) 0 true 3 H10 hO) (cwV 2 hts gX3_longer__X3_no rfl rfl rfl (by decide +kernel) ⟨Nat.le_of_ble_eq_true rfl, Nat.le_of_ble_eq_true rfl⟩) (gO.recv (C := RX3) hK hO rfl) (by omega) rfl rfl hl.1 rfl (lv_room (Nat.le_of_ble_eq_true rfl)) dX3_longer__51 ⟨by first | exact Nat.le_of_ble_eq_true rfl | omega, by first | exact Nat.le_of_ble_eq_true rfl | omega⟩) hS (by omega) (fun _ _ _ _ _ h => h.elim) (fun r14 H13 locs hq hF hS => ?_)
              have hLA := hLA.fr hF (by omega)
              obtain ⟨hr_, hOn⟩ := hq
              refine x_rw (z := bI false) hr_ ?_
              replace hOn : MO G y (nI L.length) 0 H13 := hOn
              have hMT := hMT.setO hF hOn
              have hO := hOn
              refine x_if_eqB (tgt := 59) hx hb dX3_longer__54 (by decide) (fun c54 => ?_) (fun c54 => ?_)
              · have hroom := of_decide_eq_true hrm
                have gP : Gt (txt i ++ [46] ++ dg k) := Gt_dot hgi (by omega) (by omega)
                refine lv_aload_n hx hb dX3_longer__59 rfl (lv_at hl 0 rfl) ?_
                refine lv_iload_n hx hb dX3_longer__60 rfl (lv_at hl 1 rfl) ?_
                refine lv_bipush (v := nI 46) hx hb dX3_longer__61 (by decide) ?_
                refine lv_iload_n hx hb dX3_longer__63 rfl (lv_at hl 2 rfl) ?_
                refine lv_iload_n hx hb dX3_longer__64 rfl (lv_at hl 3 rfl) ?_
                refine x_goI (x_runV (As := [.int (nI i), .int (nI 46), .int (nI k), .int (nI j)]) (rest := []) ⟨hx, hb, hml, hown, hts⟩ hE h0 hS (c_X3_behind l G y T L txt tad 0 w i 46 k j (by omega) (by omega) (by omega) (by omega) (by omega) gP H13 hMT hLA) (cwV 4 hts gX3_longer__X3_behind rfl rfl rfl (by decide +kernel) ⟨Nat.le_of_ble_eq_true rfl, Nat.le_of_ble_eq_true rfl⟩) (gO.recv (C := RX3) hK hO rfl) (by omega) rfl rfl hl.1 rfl (lv_room (Nat.le_of_ble_eq_true rfl)) dX3_longer__65 ⟨by first | exact Nat.le_of_ble_eq_true rfl | omega, by first | exact Nat.le_of_ble_eq_true rfl | omega⟩) hS (by omega) (fun _ _ _ _ _ h => h.elim) (fun r16 H15 locs hq hF hS => ?_)
                obtain ⟨rfl, hMW2⟩ := hq
                refine lv_if_le (tgt := 75) hx hb dX3_longer__68 (by decide) (fun c68 => ?_) (fun c68 => ?_)
                · refine lv_iconst (v := nI 0) hx hb dX3_longer__75 (by decide) ?_
                  exact x_zret hx hb hr hlocks h0 hS (by omega) (by omega) dX3_longer__76 (by first | rfl | exact bI_nar _) (MR.ok (rs3_y ⟨⟨i, hi, rfl⟩, j, hj, rfl⟩ (okP_of hk) (by rw [ix_N (by omega), ix_N (by omega)]; omega)) (by rw [ix_N (by omega), ix_N (by omega), decide_eq_false (Int32.not_lt.mpr c68)]; rfl) (by rw [ix_N (by omega), ix_N (by omega), ix_N (by omega)]; exact hMW2))
                · refine lv_iconst (v := nI 1) hx hb dX3_longer__71 (by decide) ?_
                  refine lv_goto (tgt := 76) hx hb dX3_longer__72 (by decide) ?_
                  exact x_zret hx hb hr hlocks h0 hS (by omega) (by omega) dX3_longer__76 (by first | rfl | exact bI_nar _) (MR.ok (rs3_y ⟨⟨i, hi, rfl⟩, j, hj, rfl⟩ (okP_of hk) (by rw [ix_N (by omega), ix_N (by omega)]; omega)) (by rw [ix_N (by omega), ix_N (by omega), decide_eq_true (Int32.not_le.mp c68)]; rfl) (by rw [ix_N (by omega), ix_N (by omega), ix_N (by omega)]; exact hMW2))
              · exact absurd c54 (by decide)
            · refine x_rw (z := bI false) (congrArg bI hrm) ?_
              refine lv_iconst (v := nI 3) hx hb dX3_longer__50 (by decide) ?_
              refine x_goI (x_runV (As := [.int (bI false), .int (nI 3)]) (rest := []) ⟨hx, hb, hml, hown, hts⟩ hE h0 hS (c_X3_no l G y (nI L.length) 0 false 3 H10 hO) (cwV 2 hts gX3_longer__X3_no rfl rfl rfl (by decide +kernel) ⟨Nat.le_of_ble_eq_true rfl, Nat.le_of_ble_eq_true rfl⟩) (gO.recv (C := RX3) hK hO rfl) (by omega) rfl rfl hl.1 rfl (lv_room (Nat.le_of_ble_eq_true rfl)) dX3_longer__51 ⟨by first | exact Nat.le_of_ble_eq_true rfl | omega, by first | exact Nat.le_of_ble_eq_true rfl | omega⟩) hS (by omega) (fun _ _ _ _ _ h => h.elim) (fun r18 H17 locs hq hF hS => ?_)
              have hLA := hLA.fr hF (by omega)
              obtain ⟨hr_, hOn⟩ := hq
              refine x_rw (z := bI true) hr_ ?_
              replace hOn : MO G y (nI L.length) (nI 3) H17 := hOn
              have hMT := hMT.setO hF hOn
              have hO := hOn
              refine x_if_eqB (tgt := 59) hx hb dX3_longer__54 (by decide) (fun c54 => ?_) (fun c54 => ?_)
              · exact absurd c54 (by decide)
              · refine lv_iconst (v := nI 0) hx hb dX3_longer__57 (by decide) ?_
                exact x_zret hx hb hr hlocks h0 hS (by omega) (by omega) dX3_longer__58 (by first | rfl | exact bI_nar _) (MR.no n30 (rs3_3 ⟨⟨i, hi, rfl⟩, j, hj, rfl⟩ (okP_of hk) (by rw [ix_N (by omega), ix_N (by omega)]; have := of_decide_eq_false hrm; omega)) (hMT.W hLA))
        · refine x_rw (z := bI false) (congrArg bI hn0) ?_
          refine lv_iconst (v := nI 2) hx hb dX3_longer__36 (by decide) ?_
          refine x_goI (x_runV (As := [.int (bI false), .int (nI 2)]) (rest := []) ⟨hx, hb, hml, hown, hts⟩ hE h0 hS (c_X3_no l G y (nI L.length) 0 false 2 H7 hO) (cwV 2 hts gX3_longer__X3_no rfl rfl rfl (by decide +kernel) ⟨Nat.le_of_ble_eq_true rfl, Nat.le_of_ble_eq_true rfl⟩) (gO.recv (C := RX3) hK hO rfl) (by omega) rfl rfl hl.1 rfl (lv_room (Nat.le_of_ble_eq_true rfl)) dX3_longer__37 ⟨by first | exact Nat.le_of_ble_eq_true rfl | omega, by first | exact Nat.le_of_ble_eq_true rfl | omega⟩) hS (by omega) (fun _ _ _ _ _ h => h.elim) (fun r20 H19 locs hq hF hS => ?_)
          have hLA := hLA.fr hF (by omega)
          obtain ⟨hr_, hOn⟩ := hq
          refine x_rw (z := bI true) hr_ ?_
          replace hOn : MO G y (nI L.length) (nI 2) H19 := hOn
          have hMT := hMT.setO hF hOn
          have hO := hOn
          refine x_if_neB (tgt := 57) hx hb dX3_longer__40 (by decide) (fun c40 => ?_) (fun c40 => ?_)
          · refine lv_iconst (v := nI 0) hx hb dX3_longer__57 (by decide) ?_
            exact x_zret hx hb hr hlocks h0 hS (by omega) (by omega) dX3_longer__58 (by first | rfl | exact bI_nar _) (MR.no n20 (rs3_2 ⟨⟨i, hi, rfl⟩, j, hj, rfl⟩ (fun g => by have g2 := inB_iff.mpr ((okP_iff (by decide)).mp g); rw [hn0] at g2; cases g2)) (hMT.W hLA))
          · exact absurd c40 (by decide)

abbrev RMX3_early : Room := { frames := 6, cells := 2, slots := 62, locals := 127 }
set_option maxHeartbeats 4000000 in
set_option maxRecDepth 100000 in
theorem c_X3_early (l : Launch) (G : gG) (y : Nat) (L : List Nat) (txt : Nat → List Nat) (th : Int32) (x : Int32) (c_ : Nat) (hc16 : c_ < 65536) (z : Int32) (H0 : Heap) (hMW : MW G y L txt th H0) : XM l yX3_early wsX3_early RMX3_early G [.ref y, .int x, .int (nI c_), .int z] H0 y (y + 34) 2 62 (qI (fun r H1 => MR G y (rs3 (okN 8 x ∧ okN 8 z) (97 ≤ c_ ∧ c_ ≤ 122) ((tk (txt (ix x)) 1).length = 0 ∧ (txt (ix x)).length + 2 ≤ 60)) (r = bI (decide (ordr (txt (ix x) ++ [45] ++ [c_]) (txt (ix x)) < 0))) L L (up txt (ix z) (txt (ix x) ++ [45] ++ [c_])) txt H1)) xN := by
  refine x_ofW (cc := cX3_early) (maxL := 5) (ret := (some .boolean)) (by decide) rfl (Nat.le_of_ble_eq_true rfl) ?_
  intro p e s m below meth c hx hb hr hml hown hts hlocks hout hin2 h0 hE ls hl
  replace hown : s.vm.findClass RX3 = some m.cls := hown
  have hK := hE.1
  have hS : va_S (gA y (y + 34) H0.size) H0 H0 [] := va_S.rf
  generalize hargs : ([.ref y, .int x, .int (nI c_), .int z] : List Value).toArray = args at hts ⊢
  have hw0 := hts (.fieldLink RX3 28 "ReleaseledgerModel" "many" "[[I") (by decide +kernel)
  have hw1 : ∀ w ∈ u_ws RX3 TX3 9, w ∈ wsX3_early := by decide +kernel
  have hw2 := hts (.fieldLink RX3 18 "ReleaseledgerModel" "sizes" "[I") (by decide +kernel)
  have hl : lv_has ls 5 [(0, .ref y), (1, .int x), (2, .int (nI c_)), (3, .int z)] := hl
  obtain ⟨tad, w, hMT, hLA⟩ := hMW
  generalize hTe : H0.size = T at hMT
  obtain ⟨hO, hTd, ⟨f2, hf2, hf2b⟩, ⟨f11, hf11, hf11b⟩, htx, hLd, hyT, hTs⟩ := id hMT
  have hTd0 := hTd
  obtain ⟨fd, hD, hDf, hDn, hDc⟩ := hTd
  have hTe2 : T = H0.size := hTe.symm
  refine lv_aload_n hx hb dX3_early_0 rfl (lv_at hl 0 rfl) ?_
  refine lv_iload_n hx hb dX3_early_1 rfl (lv_at hl 1 rfl) ?_
  refine x_goI_ro (x_runS (As := [.int x]) (rest := [.ref y]) ⟨hx, hb, hml, hown, hts⟩ hE h0 hS (c_X3_isSlot l G x H0) (va_cwS 1 hts gX3_early_X3_isSlot rfl rfl rfl (by decide +kernel) ⟨Nat.le_of_ble_eq_true rfl, Nat.le_of_ble_eq_true rfl⟩) (by omega) rfl rfl hl.1 rfl (lv_room (Nat.le_of_ble_eq_true rfl)) dX3_early_2 ⟨by first | exact Nat.le_of_ble_eq_true rfl | omega, by first | exact Nat.le_of_ble_eq_true rfl | omega⟩) hS (by omega) (fun _ _ _ _ _ h => h.elim) (fun locs hq hS => ?_)
  refine x_if_eqB (tgt := 19) hx hb dX3_early_5 (by decide) (fun c5 => ?_) (fun c5 => ?_)
  · refine lv_iconst (v := nI 0) hx hb dX3_early_19 (by decide) ?_
    refine x_rw (z := bI false) (by decide) ?_
    refine lv_iconst (v := nI 1) hx hb dX3_early_20 (by decide) ?_
    refine x_goI (x_runV (As := [.int (bI false), .int (nI 1)]) (rest := []) ⟨hx, hb, hml, hown, hts⟩ hE h0 hS (c_X3_no l G y (nI L.length) th false 1 H0 hO) (cwV 2 hts gX3_early_X3_no rfl rfl rfl (by decide +kernel) ⟨Nat.le_of_ble_eq_true rfl, Nat.le_of_ble_eq_true rfl⟩) (gO.recv (C := RX3) hK hO rfl) (by omega) rfl rfl hl.1 rfl (lv_room (Nat.le_of_ble_eq_true rfl)) dX3_early_21 ⟨by first | exact Nat.le_of_ble_eq_true rfl | omega, by first | exact Nat.le_of_ble_eq_true rfl | omega⟩) hS (by omega) (fun _ _ _ _ _ h => h.elim) (fun r3 H2 locs hq hF hS => ?_)
    have hf2 := hf2.fr hF (by omega)
    have hf11 := hf11.fr hF (by omega)
    have hLA := hLA.fr hF (by omega)
    obtain ⟨hr_, hOn⟩ := hq
    refine x_rw (z := bI true) hr_ ?_
    replace hOn : MO G y (nI L.length) (nI 1) H2 := hOn
    have hMT := hMT.setO hF hOn
    have hO := hOn
    refine x_if_neB (tgt := 52) hx hb dX3_early_24 (by decide) (fun c24 => ?_) (fun c24 => ?_)
    · refine lv_iconst (v := nI 0) hx hb dX3_early_52 (by decide) ?_
      exact x_zret hx hb hr hlocks h0 hS (by first | omega | exact Nat.le_of_ble_eq_true rfl) (by first | omega | exact Nat.le_of_ble_eq_true rfl) dX3_early_53 (by first | rfl | exact bI_nar _) ((by first | exact MR.no n20 (rs3_2 ⟨⟨i, hi, rfl⟩, j, hj, rfl⟩ (by omega)) (hMT.W hLA) | exact MR.no n10 (rs3_1 (inB_two (n := 7) (by decide) (by first | exact Or.inl c5 | exact Or.inr c12))) (hMT.W hLA)))
    · exact absurd c24 (by decide)
  · refine lv_iload_n hx hb dX3_early_8 rfl (lv_at hl 3 rfl) ?_
    refine x_goI_ro (x_runS (As := [.int z]) (rest := [.ref y]) ⟨hx, hb, hml, hown, hts⟩ hE h0 hS (c_X3_isSlot l G z H0) (va_cwS 1 hts gX3_early_X3_isSlot rfl rfl rfl (by decide +kernel) ⟨Nat.le_of_ble_eq_true rfl, Nat.le_of_ble_eq_true rfl⟩) (by omega) rfl rfl hl.1 rfl (lv_room (Nat.le_of_ble_eq_true rfl)) dX3_early_9 ⟨by first | exact Nat.le_of_ble_eq_true rfl | omega, by first | exact Nat.le_of_ble_eq_true rfl | omega⟩) hS (by omega) (fun _ _ _ _ _ h => h.elim) (fun locs hq hS => ?_)
    refine x_if_eqB (tgt := 19) hx hb dX3_early_12 (by decide) (fun c12 => ?_) (fun c12 => ?_)
    · refine lv_iconst (v := nI 0) hx hb dX3_early_19 (by decide) ?_
      refine x_rw (z := bI false) (by decide) ?_
      refine lv_iconst (v := nI 1) hx hb dX3_early_20 (by decide) ?_
      refine x_goI (x_runV (As := [.int (bI false), .int (nI 1)]) (rest := []) ⟨hx, hb, hml, hown, hts⟩ hE h0 hS (c_X3_no l G y (nI L.length) th false 1 H0 hO) (cwV 2 hts gX3_early_X3_no rfl rfl rfl (by decide +kernel) ⟨Nat.le_of_ble_eq_true rfl, Nat.le_of_ble_eq_true rfl⟩) (gO.recv (C := RX3) hK hO rfl) (by omega) rfl rfl hl.1 rfl (lv_room (Nat.le_of_ble_eq_true rfl)) dX3_early_21 ⟨by first | exact Nat.le_of_ble_eq_true rfl | omega, by first | exact Nat.le_of_ble_eq_true rfl | omega⟩) hS (by omega) (fun _ _ _ _ _ h => h.elim) (fun r6 H5 locs hq hF hS => ?_)
      have hf2 := hf2.fr hF (by omega)
      have hf11 := hf11.fr hF (by omega)
      have hLA := hLA.fr hF (by omega)
      obtain ⟨hr_, hOn⟩ := hq
      refine x_rw (z := bI true) hr_ ?_
      replace hOn : MO G y (nI L.length) (nI 1) H5 := hOn
      have hMT := hMT.setO hF hOn
      have hO := hOn
      refine x_if_neB (tgt := 52) hx hb dX3_early_24 (by decide) (fun c24 => ?_) (fun c24 => ?_)
      · refine lv_iconst (v := nI 0) hx hb dX3_early_52 (by decide) ?_
        exact x_zret hx hb hr hlocks h0 hS (by first | omega | exact Nat.le_of_ble_eq_true rfl) (by first | omega | exact Nat.le_of_ble_eq_true rfl) dX3_early_53 (by first | rfl | exact bI_nar _) ((by first | exact MR.no n20 (rs3_2 ⟨⟨i, hi, rfl⟩, j, hj, rfl⟩ (by omega)) (hMT.W hLA) | exact MR.no n10 (rs3_1 (inB_two (n := 7) (by decide) (by first | exact Or.inl c5 | exact Or.inr c12))) (hMT.W hLA)))
      · exact absurd c24 (by decide)
    · refine lv_iconst (v := nI 1) hx hb dX3_early_15 (by decide) ?_
      refine lv_goto (tgt := 20) hx hb dX3_early_16 (by decide) ?_
      refine x_rw (z := bI true) (by decide) ?_
      refine lv_iconst (v := nI 1) hx hb dX3_early_20 (by decide) ?_
      refine x_goI (x_runV (As := [.int (bI true), .int (nI 1)]) (rest := []) ⟨hx, hb, hml, hown, hts⟩ hE h0 hS (c_X3_no l G y (nI L.length) th true 1 H0 hO) (cwV 2 hts gX3_early_X3_no rfl rfl rfl (by decide +kernel) ⟨Nat.le_of_ble_eq_true rfl, Nat.le_of_ble_eq_true rfl⟩) (gO.recv (C := RX3) hK hO rfl) (by omega) rfl rfl hl.1 rfl (lv_room (Nat.le_of_ble_eq_true rfl)) dX3_early_21 ⟨by first | exact Nat.le_of_ble_eq_true rfl | omega, by first | exact Nat.le_of_ble_eq_true rfl | omega⟩) hS (by omega) (fun _ _ _ _ _ h => h.elim) (fun r8 H7 locs hq hF hS => ?_)
      have hf2 := hf2.fr hF (by omega)
      have hf11 := hf11.fr hF (by omega)
      have hLA := hLA.fr hF (by omega)
      obtain ⟨hr_, hOn⟩ := hq
      refine x_rw (z := bI false) hr_ ?_
      replace hOn : MO G y (nI L.length) 0 H7 := hOn
      have hMT := hMT.setO hF hOn
      have hO := hOn
      refine x_if_neB (tgt := 52) hx hb dX3_early_24 (by decide) (fun c24 => ?_) (fun c24 => ?_)
      · exact absurd c24 (by decide)
      · obtain ⟨i, hi, rfl⟩ := (inB_okN (n := 7) (by decide)).mp c5
        obtain ⟨j, hj, rfl⟩ := (inB_okN (n := 7) (by decide)).mp c12
        have hgi := hMT.gt (i := i) (by omega)
        have hle_i := hgi.le
        refine lv_aload_n hx hb dX3_early_27 rfl (lv_at hl 0 rfl) ?_
        refine lv_iload_n hx hb dX3_early_28 rfl (lv_at hl 2 rfl) ?_
        refine lv_bipush (v := nI 97) hx hb dX3_early_29 (by decide) ?_
        refine x_icmp_lt (tgt := 44) hx hb (by omega) (by omega) dX3_early_31 (by decide) (fun c31 => ?_) (fun c31 => ?_)
        · refine lv_iconst (v := nI 0) hx hb dX3_early_44 (by decide) ?_
          refine x_rw (z := bI false) (by decide) ?_
          refine lv_iconst (v := nI 2) hx hb dX3_early_45 (by decide) ?_
          refine x_goI (x_runV (As := [.int (bI false), .int (nI 2)]) (rest := []) ⟨hx, hb, hml, hown, hts⟩ hE h0 hS (c_X3_no l G y (nI L.length) 0 false 2 H7 hO) (cwV 2 hts gX3_early_X3_no rfl rfl rfl (by decide +kernel) ⟨Nat.le_of_ble_eq_true rfl, Nat.le_of_ble_eq_true rfl⟩) (gO.recv (C := RX3) hK hO rfl) (by omega) rfl rfl hl.1 rfl (lv_room (Nat.le_of_ble_eq_true rfl)) dX3_early_46 ⟨by first | exact Nat.le_of_ble_eq_true rfl | omega, by first | exact Nat.le_of_ble_eq_true rfl | omega⟩) hS (by omega) (fun _ _ _ _ _ h => h.elim) (fun r10 H9 locs hq hF hS => ?_)
          have hf2 := hf2.fr hF (by omega)
          have hf11 := hf11.fr hF (by omega)
          have hLA := hLA.fr hF (by omega)
          obtain ⟨hr_, hOn⟩ := hq
          refine x_rw (z := bI true) hr_ ?_
          replace hOn : MO G y (nI L.length) (nI 2) H9 := hOn
          have hMT := hMT.setO hF hOn
          have hO := hOn
          refine x_if_eqB (tgt := 54) hx hb dX3_early_49 (by decide) (fun c49 => ?_) (fun c49 => ?_)
          · exact absurd c49 (by decide)
          · refine lv_iconst (v := nI 0) hx hb dX3_early_52 (by decide) ?_
            exact x_zret hx hb hr hlocks h0 hS (by first | omega | exact Nat.le_of_ble_eq_true rfl) (by first | omega | exact Nat.le_of_ble_eq_true rfl) dX3_early_53 (by first | rfl | exact bI_nar _) ((by first | exact MR.no n20 (rs3_2 ⟨⟨i, hi, rfl⟩, j, hj, rfl⟩ (by omega)) (hMT.W hLA) | exact MR.no n10 (rs3_1 (inB_two (n := 7) (by decide) (by first | exact Or.inl c5 | exact Or.inr c12))) (hMT.W hLA)))
        · refine lv_iload_n hx hb dX3_early_34 rfl (lv_at hl 2 rfl) ?_
          refine lv_bipush (v := nI 122) hx hb dX3_early_35 (by decide) ?_
          refine x_icmp_gt (tgt := 44) hx hb (by omega) (by omega) dX3_early_37 (by decide) (fun c37 => ?_) (fun c37 => ?_)
          · refine lv_iconst (v := nI 0) hx hb dX3_early_44 (by decide) ?_
            refine x_rw (z := bI false) (by decide) ?_
            refine lv_iconst (v := nI 2) hx hb dX3_early_45 (by decide) ?_
            refine x_goI (x_runV (As := [.int (bI false), .int (nI 2)]) (rest := []) ⟨hx, hb, hml, hown, hts⟩ hE h0 hS (c_X3_no l G y (nI L.length) 0 false 2 H7 hO) (cwV 2 hts gX3_early_X3_no rfl rfl rfl (by decide +kernel) ⟨Nat.le_of_ble_eq_true rfl, Nat.le_of_ble_eq_true rfl⟩) (gO.recv (C := RX3) hK hO rfl) (by omega) rfl rfl hl.1 rfl (lv_room (Nat.le_of_ble_eq_true rfl)) dX3_early_46 ⟨by first | exact Nat.le_of_ble_eq_true rfl | omega, by first | exact Nat.le_of_ble_eq_true rfl | omega⟩) hS (by omega) (fun _ _ _ _ _ h => h.elim) (fun r12 H11 locs hq hF hS => ?_)
            have hf2 := hf2.fr hF (by omega)
            have hf11 := hf11.fr hF (by omega)
            have hLA := hLA.fr hF (by omega)
            obtain ⟨hr_, hOn⟩ := hq
            refine x_rw (z := bI true) hr_ ?_
            replace hOn : MO G y (nI L.length) (nI 2) H11 := hOn
            have hMT := hMT.setO hF hOn
            have hO := hOn
            refine x_if_eqB (tgt := 54) hx hb dX3_early_49 (by decide) (fun c49 => ?_) (fun c49 => ?_)
            · exact absurd c49 (by decide)
            · refine lv_iconst (v := nI 0) hx hb dX3_early_52 (by decide) ?_
              exact x_zret hx hb hr hlocks h0 hS (by first | omega | exact Nat.le_of_ble_eq_true rfl) (by first | omega | exact Nat.le_of_ble_eq_true rfl) dX3_early_53 (by first | rfl | exact bI_nar _) ((by first | exact MR.no n20 (rs3_2 ⟨⟨i, hi, rfl⟩, j, hj, rfl⟩ (by omega)) (hMT.W hLA) | exact MR.no n10 (rs3_1 (inB_two (n := 7) (by decide) (by first | exact Or.inl c5 | exact Or.inr c12))) (hMT.W hLA)))
          · refine lv_iconst (v := nI 1) hx hb dX3_early_40 (by decide) ?_
            refine lv_goto (tgt := 45) hx hb dX3_early_41 (by decide) ?_
            refine x_rw (z := bI true) (by decide) ?_
            refine lv_iconst (v := nI 2) hx hb dX3_early_45 (by decide) ?_
            refine x_goI (x_runV (As := [.int (bI true), .int (nI 2)]) (rest := []) ⟨hx, hb, hml, hown, hts⟩ hE h0 hS (c_X3_no l G y (nI L.length) 0 true 2 H7 hO) (cwV 2 hts gX3_early_X3_no rfl rfl rfl (by decide +kernel) ⟨Nat.le_of_ble_eq_true rfl, Nat.le_of_ble_eq_true rfl⟩) (gO.recv (C := RX3) hK hO rfl) (by omega) rfl rfl hl.1 rfl (lv_room (Nat.le_of_ble_eq_true rfl)) dX3_early_46 ⟨by first | exact Nat.le_of_ble_eq_true rfl | omega, by first | exact Nat.le_of_ble_eq_true rfl | omega⟩) hS (by omega) (fun _ _ _ _ _ h => h.elim) (fun r14 H13 locs hq hF hS => ?_)
            have hf2 := hf2.fr hF (by omega)
            have hf11 := hf11.fr hF (by omega)
            have hLA := hLA.fr hF (by omega)
            obtain ⟨hr_, hOn⟩ := hq
            refine x_rw (z := bI false) hr_ ?_
            replace hOn : MO G y (nI L.length) 0 H13 := hOn
            have hMT := hMT.setO hF hOn
            have hO := hOn
            refine x_if_eqB (tgt := 54) hx hb dX3_early_49 (by decide) (fun c49 => ?_) (fun c49 => ?_)
            · refine lv_aload_n hx hb dX3_early_54 rfl (lv_at hl 0 rfl) ?_
              refine lv_iconst (v := nI 0) hx hb dX3_early_55 (by decide) ?_
              refine lv_iload_n hx hb dX3_early_56 rfl (lv_at hl 1 rfl) ?_
              refine x_goV (x_runV (As := [.int (nI 0), .int (nI i)]) (rest := []) ⟨hx, hb, hml, hown, hts⟩ hE h0 hS (c_X3_look_ l G y T L txt tad 0 w 0 (by decide) i (by omega) H13 hMT hLA) (cwV 2 hts gX3_early_X3_look_ rfl rfl rfl (by decide +kernel) ⟨Nat.le_of_ble_eq_true rfl, Nat.le_of_ble_eq_true rfl⟩) (gO.recv (C := RX3) hK hO rfl) (by omega) rfl rfl hl.1 rfl (lv_room (Nat.le_of_ble_eq_true rfl)) dX3_early_57 ⟨by first | exact Nat.le_of_ble_eq_true rfl | omega, by first | exact Nat.le_of_ble_eq_true rfl | omega⟩) hS (by omega) (fun _ _ _ _ _ h => h.elim) (fun  H15 locs hq hF hS => ?_)
              have hf2 := hf2.fr hF (by omega)
              have hf11 := hf11.fr hF (by omega)
              have hO := hO.fr hF (by omega)
              have hMT := hMT.fr hF (by omega)
              have hLA := hq
              have hr3 : 1 < 3 := (by decide)
              obtain ⟨m13, m16, m25, lmid, ⟨fn, m12, hfn⟩, lcnt, ltok⟩ := id hLA
              obtain ⟨m17_s0, m26_s0⟩ := lmid 0 (by decide)
              obtain ⟨fm_s0, mm_s0, hfm_s0⟩ := lcnt 0 (by decide)
              replace hfm_s0 := hfm_s0 _ wset_self
              have h60_s0 := tk_le (txt i) 1
              obtain ⟨fs_s0, fe_s0, ms_s0, me_s0, hse_s0⟩ := ltok 0 (by decide) 1 hr3
              replace hse_s0 := hse_s0 _ wset_self
              refine lv_aload_n hx hb dX3_early_60 rfl (lv_at hl 0 rfl) ?_
              refine lv_aload_n hx hb dX3_early_61 rfl (lv_at hl 0 rfl) ?_
              refine x_get (ci := 3) hx hb hts hown hK rfl hw1 5 (by decide) hw0 hO rfl dX3_early_62 ?_
              refine lv_iconst (v := nI 0) hx hb dX3_early_65 (by decide) ?_
              refine x_aald (k := 3) (v := (y + 14 + 0)) hx hb hK (by decide) rfl m13 (by omega) (by decide) (by rw [rwk_at (by omega), Nat.one_mul]) dX3_early_66 ?_
              refine lv_iconst (v := nI 1) hx hb dX3_early_67 (by decide) ?_
              refine x_iald hx hb hK mm_s0 (by omega) (by decide) dX3_early_68 ?_
              refine x_rw (z := (nI ((tk (txt i) 1).length))) (hfm_s0 _ (by omega)) ?_
              refine x_if_neN (tgt := 89) hx hb (by omega) dX3_early_69 (by decide) (fun c69 => ?_) (fun c69 => ?_)
              · refine lv_iconst (v := nI 0) hx hb dX3_early_89 (by decide) ?_
                refine x_rw (z := bI false) (by decide) ?_
                refine lv_iconst (v := nI 3) hx hb dX3_early_90 (by decide) ?_
                refine x_goI (x_runV (As := [.int (bI false), .int (nI 3)]) (rest := []) ⟨hx, hb, hml, hown, hts⟩ hE h0 hS (c_X3_no l G y (nI L.length) 0 false 3 H15 hO) (cwV 2 hts gX3_early_X3_no rfl rfl rfl (by decide +kernel) ⟨Nat.le_of_ble_eq_true rfl, Nat.le_of_ble_eq_true rfl⟩) (gO.recv (C := RX3) hK hO rfl) (by omega) rfl rfl hl.1 rfl (lv_room (Nat.le_of_ble_eq_true rfl)) dX3_early_91 ⟨by first | exact Nat.le_of_ble_eq_true rfl | omega, by first | exact Nat.le_of_ble_eq_true rfl | omega⟩) hS (by omega) (fun _ _ _ _ _ h => h.elim) (fun r17 H16 locs hq hF hS => ?_)
                have hf2 := hf2.fr hF (by omega)
                have hf11 := hf11.fr hF (by omega)
                have m13 := m13.fr hF (by omega)
                have m16 := m16.fr hF (by omega)
                have m25 := m25.fr hF (by omega)
                have m12 := m12.fr hF (by omega)
                have mm_s0 := mm_s0.fr hF (by omega)
                have m17_s0 := m17_s0.fr hF (by omega)
                have m26_s0 := m26_s0.fr hF (by omega)
                have ms_s0 := ms_s0.fr hF (by omega)
                have me_s0 := me_s0.fr hF (by omega)
                have hLA := hLA.fr hF (by omega)
                obtain ⟨hr_, hOn⟩ := hq
                refine x_rw (z := bI true) hr_ ?_
                replace hOn : MO G y (nI L.length) (nI 3) H16 := hOn
                have hMT := hMT.setO hF hOn
                have hO := hOn
                refine x_if_eqB (tgt := 99) hx hb dX3_early_94 (by decide) (fun c94 => ?_) (fun c94 => ?_)
                · exact absurd c94 (by decide)
                · refine lv_iconst (v := nI 0) hx hb dX3_early_97 (by decide) ?_
                  exact x_zret hx hb hr hlocks h0 hS (by first | omega | exact Nat.le_of_ble_eq_true rfl) (by first | omega | exact Nat.le_of_ble_eq_true rfl) dX3_early_98 (by first | rfl | exact bI_nar _) (MR.no n30 (rs3_3 ⟨⟨i, hi, rfl⟩, j, hj, rfl⟩ (by omega) (by rw [ix_N (by omega)]; omega)) (hMT.W hLA))
              · refine lv_aload_n hx hb dX3_early_72 rfl (lv_at hl 0 rfl) ?_
                refine x_get (ci := 3) hx hb hts hown hK rfl hw1 3 (by decide) hw2 hO rfl dX3_early_73 ?_
                refine lv_iload_n hx hb dX3_early_76 rfl (lv_at hl 1 rfl) ?_
                refine x_iald hx hb hK hf11 (by omega) (by decide) dX3_early_77 ?_
                refine x_rw (z := (nI ((txt i).length))) (hf11b _ (by omega)) ?_
                refine lv_iconst (v := nI 2) hx hb dX3_early_78 (by decide) ?_
                refine lv_iadd hx hb dX3_early_79 ?_
                refine x_rw (z := nI (((txt i).length) + 2)) (nI_add _ _) ?_
                refine lv_bipush (v := nI 60) hx hb dX3_early_80 (by decide) ?_
                refine x_icmp_gt (tgt := 89) hx hb (by omega) (by omega) dX3_early_82 (by decide) (fun c82 => ?_) (fun c82 => ?_)
                · refine lv_iconst (v := nI 0) hx hb dX3_early_89 (by decide) ?_
                  refine x_rw (z := bI false) (by decide) ?_
                  refine lv_iconst (v := nI 3) hx hb dX3_early_90 (by decide) ?_
                  refine x_goI (x_runV (As := [.int (bI false), .int (nI 3)]) (rest := []) ⟨hx, hb, hml, hown, hts⟩ hE h0 hS (c_X3_no l G y (nI L.length) 0 false 3 H15 hO) (cwV 2 hts gX3_early_X3_no rfl rfl rfl (by decide +kernel) ⟨Nat.le_of_ble_eq_true rfl, Nat.le_of_ble_eq_true rfl⟩) (gO.recv (C := RX3) hK hO rfl) (by omega) rfl rfl hl.1 rfl (lv_room (Nat.le_of_ble_eq_true rfl)) dX3_early_91 ⟨by first | exact Nat.le_of_ble_eq_true rfl | omega, by first | exact Nat.le_of_ble_eq_true rfl | omega⟩) hS (by omega) (fun _ _ _ _ _ h => h.elim) (fun r19 H18 locs hq hF hS => ?_)
                  have hf2 := hf2.fr hF (by omega)
                  have hf11 := hf11.fr hF (by omega)
                  have m13 := m13.fr hF (by omega)
                  have m16 := m16.fr hF (by omega)
                  have m25 := m25.fr hF (by omega)
                  have m12 := m12.fr hF (by omega)
                  have mm_s0 := mm_s0.fr hF (by omega)
                  have m17_s0 := m17_s0.fr hF (by omega)
                  have m26_s0 := m26_s0.fr hF (by omega)
                  have ms_s0 := ms_s0.fr hF (by omega)
                  have me_s0 := me_s0.fr hF (by omega)
                  have hLA := hLA.fr hF (by omega)
                  obtain ⟨hr_, hOn⟩ := hq
                  refine x_rw (z := bI true) hr_ ?_
                  replace hOn : MO G y (nI L.length) (nI 3) H18 := hOn
                  have hMT := hMT.setO hF hOn
                  have hO := hOn
                  refine x_if_eqB (tgt := 99) hx hb dX3_early_94 (by decide) (fun c94 => ?_) (fun c94 => ?_)
                  · exact absurd c94 (by decide)
                  · refine lv_iconst (v := nI 0) hx hb dX3_early_97 (by decide) ?_
                    exact x_zret hx hb hr hlocks h0 hS (by first | omega | exact Nat.le_of_ble_eq_true rfl) (by first | omega | exact Nat.le_of_ble_eq_true rfl) dX3_early_98 (by first | rfl | exact bI_nar _) (MR.no n30 (rs3_3 ⟨⟨i, hi, rfl⟩, j, hj, rfl⟩ (by omega) (by rw [ix_N (by omega)]; omega)) (hMT.W hLA))
                · refine lv_iconst (v := nI 1) hx hb dX3_early_85 (by decide) ?_
                  refine lv_goto (tgt := 90) hx hb dX3_early_86 (by decide) ?_
                  refine x_rw (z := bI true) (by decide) ?_
                  refine lv_iconst (v := nI 3) hx hb dX3_early_90 (by decide) ?_
                  refine x_goI (x_runV (As := [.int (bI true), .int (nI 3)]) (rest := []) ⟨hx, hb, hml, hown, hts⟩ hE h0 hS (c_X3_no l G y (nI L.length) 0 true 3 H15 hO) (cwV 2 hts gX3_early_X3_no rfl rfl rfl (by decide +kernel) ⟨Nat.le_of_ble_eq_true rfl, Nat.le_of_ble_eq_true rfl⟩) (gO.recv (C := RX3) hK hO rfl) (by omega) rfl rfl hl.1 rfl (lv_room (Nat.le_of_ble_eq_true rfl)) dX3_early_91 ⟨by first | exact Nat.le_of_ble_eq_true rfl | omega, by first | exact Nat.le_of_ble_eq_true rfl | omega⟩) hS (by omega) (fun _ _ _ _ _ h => h.elim) (fun r21 H20 locs hq hF hS => ?_)
                  have hf2 := hf2.fr hF (by omega)
                  have hf11 := hf11.fr hF (by omega)
                  have m13 := m13.fr hF (by omega)
                  have m16 := m16.fr hF (by omega)
                  have m25 := m25.fr hF (by omega)
                  have m12 := m12.fr hF (by omega)
                  have mm_s0 := mm_s0.fr hF (by omega)
                  have m17_s0 := m17_s0.fr hF (by omega)
                  have m26_s0 := m26_s0.fr hF (by omega)
                  have ms_s0 := ms_s0.fr hF (by omega)
                  have me_s0 := me_s0.fr hF (by omega)
                  have hLA := hLA.fr hF (by omega)
                  obtain ⟨hr_, hOn⟩ := hq
                  refine x_rw (z := bI false) hr_ ?_
                  replace hOn : MO G y (nI L.length) 0 H20 := hOn
                  have hMT := hMT.setO hF hOn
                  have hO := hOn
                  refine x_if_eqB (tgt := 99) hx hb dX3_early_94 (by decide) (fun c94 => ?_) (fun c94 => ?_)
                  · refine lv_aload_n hx hb dX3_early_99 rfl (lv_at hl 0 rfl) ?_
                    refine lv_iload_n hx hb dX3_early_100 rfl (lv_at hl 1 rfl) ?_
                    have hso := hS.1
                    refine x_goR (x_runV (As := [.int (nI i)]) (rest := []) ⟨hx, hb, hml, hown, hts⟩ hE h0 hS (c_X3_longer l G y T L txt tad 0 i (by omega) H20 hMT) (cwV 1 hts gX3_early_X3_longer rfl rfl rfl (by decide +kernel) ⟨Nat.le_of_ble_eq_true rfl, Nat.le_of_ble_eq_true rfl⟩) (gO.recv (C := RX3) hK hO rfl) (by omega) rfl rfl hl.1 rfl (lv_room (Nat.le_of_ble_eq_true rfl)) dX3_early_101 ⟨by first | exact Nat.le_of_ble_eq_true rfl | omega, by first | exact Nat.le_of_ble_eq_true rfl | omega⟩) hS (by omega) (fun _ _ _ _ _ h => h.elim) (fun r23 H22 locs hq hF hS => ?_)
                    have hf2 := hf2.fr hF (by omega)
                    have hf11 := hf11.fr hF (by omega)
                    have hO := hO.fr hF (by omega)
                    have hMT := hMT.fr hF (by omega)
                    have hLA := hLA.fr hF (by omega)
                    obtain ⟨hz0, fz_, hzl, hzf⟩ := hq
                    refine lv_astore (lv' := [(4, .ref r23), (0, .ref y), (1, .int (nI i)), (2, .int (nI c_)), (3, .int (nI j))]) hx hb dX3_early_104 hl (by decide) rfl (fun ls hl => ?_)
                    refine lv_aload hx hb dX3_early_106 (lv_at hl 0 rfl) ?_
                    refine lv_aload_n hx hb dX3_early_108 rfl (lv_at hl 1 rfl) ?_
                    refine x_get (ci := 3) hx hb hts hown hK rfl hw1 3 (by decide) hw2 hO rfl dX3_early_109 ?_
                    refine lv_iload_n hx hb dX3_early_112 rfl (lv_at hl 2 rfl) ?_
                    refine x_iald hx hb hK hf11 (by omega) (by decide) dX3_early_113 ?_
                    refine x_rw (z := (nI ((txt i).length))) (hf11b _ (by omega)) ?_
                    refine lv_bipush (v := nI 45) hx hb dX3_early_114 (by decide) ?_
                    refine x_cast hx hb hK hzl (by omega) (by decide) (by omega) hS (by unfold gA; omega) dX3_early_116 (fun H24 locs hzl hF hz hS => ?_)
                    have hf2 := hf2.fr hF (by omega)
                    have hf11 := hf11.fr hF (by omega)
                    have hO := hO.fr hF (by omega)
                    have hMT := hMT.fr hF (by omega)
                    have hLA := hLA.fr hF (by omega)
                    refine lv_aload hx hb dX3_early_117 (lv_at hl 0 rfl) ?_
                    refine lv_aload_n hx hb dX3_early_119 rfl (lv_at hl 1 rfl) ?_
                    refine x_get (ci := 3) hx hb hts hown hK rfl hw1 3 (by decide) hw2 hO rfl dX3_early_120 ?_
                    refine lv_iload_n hx hb dX3_early_123 rfl (lv_at hl 2 rfl) ?_
                    refine x_iald hx hb hK hf11 (by omega) (by decide) dX3_early_124 ?_
                    refine x_rw (z := (nI ((txt i).length))) (hf11b _ (by omega)) ?_
                    refine lv_iconst (v := nI 1) hx hb dX3_early_125 (by decide) ?_
                    refine lv_iadd hx hb dX3_early_126 ?_
                    refine x_rw (z := nI (((txt i).length) + 1)) (nI_add _ _) ?_
                    refine lv_iload_n hx hb dX3_early_127 rfl (lv_at hl 3 rfl) ?_
                    refine x_cast hx hb hK hzl (by omega) (by decide) (by omega) hS (by unfold gA; omega) dX3_early_128 (fun H25 locs hzl hF hz hS => ?_)
                    have hf2 := hf2.fr hF (by omega)
                    have hf11 := hf11.fr hF (by omega)
                    have hO := hO.fr hF (by omega)
                    have hMT := hMT.fr hF (by omega)
                    have hLA := hLA.fr hF (by omega)
                    refine lv_aload_n hx hb dX3_early_129 rfl (lv_at hl 1 rfl) ?_
                    refine lv_iload_n hx hb dX3_early_130 rfl (lv_at hl 2 rfl) ?_
                    refine lv_aload hx hb dX3_early_131 (lv_at hl 0 rfl) ?_
                    refine lv_aload_n hx hb dX3_early_133 rfl (lv_at hl 1 rfl) ?_
                    refine x_get (ci := 3) hx hb hts hown hK rfl hw1 3 (by decide) hw2 hO rfl dX3_early_134 ?_
                    refine lv_iload_n hx hb dX3_early_137 rfl (lv_at hl 2 rfl) ?_
                    refine x_iald hx hb hK hf11 (by omega) (by decide) dX3_early_138 ?_
                    refine x_rw (z := (nI ((txt i).length))) (hf11b _ (by omega)) ?_
                    refine lv_iconst (v := nI 2) hx hb dX3_early_139 (by decide) ?_
                    refine lv_iadd hx hb dX3_early_140 ?_
                    refine x_rw (z := nI (((txt i).length) + 2)) (nI_add _ _) ?_
                    have elen : (txt i ++ [45] ++ [c_]).length = (txt i).length + 2 := by rw [List.length_append, List.length_append, List.length_singleton, List.length_singleton]
                    refine x_rw (z := nI (txt i ++ [45] ++ [c_]).length) (congrArg nI elen.symm) ?_
                    have gP : Gt (txt i ++ [45] ++ [c_]) := Gt_let hgi (by omega) (by omega) (by omega)
                    have hT : TA G r23 (txt i ++ [45] ++ [c_]) H25 := TA_mk hzl (ar_two hzf) gP
                    refine lv_iload_n hx hb dX3_early_141 rfl (lv_at hl 4 rfl) ?_
                    refine x_goI (x_runV (As := [.int (nI i), .ref r23, .int (nI ((txt i ++ [45] ++ [c_]).length)), .int (nI j)]) (rest := []) ⟨hx, hb, hml, hown, hts⟩ hE h0 hS (c_X3_put l G y T L txt tad 0 (wset w 0 (tad i, tk (txt i))) i j (by omega) (by omega) r23 (txt i ++ [45] ++ [c_]) gP (by omega) H25 hMT hLA hT) (cwV 4 hts gX3_early_X3_put rfl rfl rfl (by decide +kernel) ⟨Nat.le_of_ble_eq_true rfl, Nat.le_of_ble_eq_true rfl⟩) (gO.recv (C := RX3) hK hO rfl) (by omega) rfl rfl hl.1 rfl (lv_room (Nat.le_of_ble_eq_true rfl)) dX3_early_142 ⟨by first | exact Nat.le_of_ble_eq_true rfl | omega, by first | exact Nat.le_of_ble_eq_true rfl | omega⟩) hS (by omega) (fun _ _ _ _ _ h => h.elim) (fun r27 H26 locs hq hF hS => ?_)
                    obtain ⟨rfl, hMW2⟩ := hq
                    refine lv_if_ge (tgt := 152) hx hb dX3_early_145 (by decide) (fun c145 => ?_) (fun c145 => ?_)
                    · refine lv_iconst (v := nI 0) hx hb dX3_early_152 (by decide) ?_
                      exact x_zret hx hb hr hlocks h0 hS (by first | omega | exact Nat.le_of_ble_eq_true rfl) (by first | omega | exact Nat.le_of_ble_eq_true rfl) dX3_early_153 (by first | rfl | exact bI_nar _) (MR.ok (rs3_y ⟨⟨i, hi, rfl⟩, j, hj, rfl⟩ (by omega) (by rw [ix_N (by omega)]; omega)) (by rw [ix_N (by omega), decide_eq_false (Int32.not_lt.mpr c145)]; rfl) (by rw [ix_N (by omega), ix_N (by omega)]; exact hMW2))
                    · refine lv_iconst (v := nI 1) hx hb dX3_early_148 (by decide) ?_
                      refine lv_goto (tgt := 153) hx hb dX3_early_149 (by decide) ?_
                      exact x_zret hx hb hr hlocks h0 hS (by first | omega | exact Nat.le_of_ble_eq_true rfl) (by first | omega | exact Nat.le_of_ble_eq_true rfl) dX3_early_153 (by first | rfl | exact bI_nar _) (MR.ok (rs3_y ⟨⟨i, hi, rfl⟩, j, hj, rfl⟩ (by omega) (by rw [ix_N (by omega)]; omega)) (by rw [ix_N (by omega), decide_eq_true (Int32.not_le.mp c145)]; rfl) (by rw [ix_N (by omega), ix_N (by omega)]; exact hMW2))
                  · exact absurd c94 (by decide)
            · exact absurd c49 (by decide)

abbrev RMX3_built : Room := { frames := 7, cells := 2, slots := 62, locals := 152 }
set_option maxHeartbeats 4000000 in
set_option maxRecDepth 100000 in
theorem c_X3_built (l : Launch) (G : gG) (y : Nat) (L : List Nat) (txt : Nat → List Nat) (th : Int32) (x n z : Int32) (H0 : Heap) (hMW : MW G y L txt th H0) : XM l yX3_built wsX3_built RMX3_built G [.ref y, .int x, .int n, .int z] H0 y (y + 34) 2 62 (qI (fun r H1 => MR G y (rs3 (okN 8 x ∧ okN 8 z) (okN 1000 n) (0 < (tk (txt (ix x)) 1).length ∧ (tk (txt (ix x)) 2).length = 0 ∧ (txt (ix x)).length + (1 + dgs (ix n)) ≤ 60)) (r = ordr (txt (ix x) ++ [43] ++ dg (ix n)) (txt (ix x))) L L (up txt (ix z) (txt (ix x) ++ [43] ++ dg (ix n))) txt H1)) xN := by
  refine x_ofW (cc := cX3_built) (maxL := 4) (ret := (some .int)) (by decide) rfl (Nat.le_of_ble_eq_true rfl) ?_
  intro p e s m below meth c hx hb hr hml hown hts hlocks hout hin2 h0 hE ls hl
  replace hown : s.vm.findClass RX3 = some m.cls := hown
  have hK := hE.1
  have hS : va_S (gA y (y + 34) H0.size) H0 H0 [] := va_S.rf
  generalize hargs : ([.ref y, .int x, .int n, .int z] : List Value).toArray = args at hts ⊢
  have hw0 := hts (.fieldLink RX3 28 "ReleaseledgerModel" "many" "[[I") (by decide +kernel)
  have hw1 : ∀ w ∈ u_ws RX3 TX3 9, w ∈ wsX3_built := by decide +kernel
  have hl : lv_has ls 4 [(0, .ref y), (1, .int x), (2, .int n), (3, .int z)] := hl
  obtain ⟨tad, w, hMT, hLA⟩ := hMW
  generalize hTe : H0.size = T at hMT
  obtain ⟨hO, hTd, ⟨f2, hf2, hf2b⟩, ⟨f11, hf11, hf11b⟩, htx, hLd, hyT, hTs⟩ := id hMT
  have hTd0 := hTd
  obtain ⟨fd, hD, hDf, hDn, hDc⟩ := hTd
  have hTe2 : T = H0.size := hTe.symm
  refine lv_aload_n hx hb dX3_built_0 rfl (lv_at hl 0 rfl) ?_
  refine lv_iload_n hx hb dX3_built_1 rfl (lv_at hl 1 rfl) ?_
  refine x_goI_ro (x_runS (As := [.int x]) (rest := [.ref y]) ⟨hx, hb, hml, hown, hts⟩ hE h0 hS (c_X3_isSlot l G x H0) (va_cwS 1 hts gX3_built_X3_isSlot rfl rfl rfl (by decide +kernel) ⟨Nat.le_of_ble_eq_true rfl, Nat.le_of_ble_eq_true rfl⟩) (by omega) rfl rfl hl.1 rfl (lv_room (Nat.le_of_ble_eq_true rfl)) dX3_built_2 ⟨by first | exact Nat.le_of_ble_eq_true rfl | omega, by first | exact Nat.le_of_ble_eq_true rfl | omega⟩) hS (by omega) (fun _ _ _ _ _ h => h.elim) (fun locs hq hS => ?_)
  refine x_if_eqB (tgt := 19) hx hb dX3_built_5 (by decide) (fun c5 => ?_) (fun c5 => ?_)
  · refine lv_iconst (v := nI 0) hx hb dX3_built_19 (by decide) ?_
    refine x_rw (z := bI false) (by decide) ?_
    refine lv_iconst (v := nI 1) hx hb dX3_built_20 (by decide) ?_
    refine x_goI (x_runV (As := [.int (bI false), .int (nI 1)]) (rest := []) ⟨hx, hb, hml, hown, hts⟩ hE h0 hS (c_X3_no l G y (nI L.length) th false 1 H0 hO) (cwV 2 hts gX3_built_X3_no rfl rfl rfl (by decide +kernel) ⟨Nat.le_of_ble_eq_true rfl, Nat.le_of_ble_eq_true rfl⟩) (gO.recv (C := RX3) hK hO rfl) (by omega) rfl rfl hl.1 rfl (lv_room (Nat.le_of_ble_eq_true rfl)) dX3_built_21 ⟨by first | exact Nat.le_of_ble_eq_true rfl | omega, by first | exact Nat.le_of_ble_eq_true rfl | omega⟩) hS (by omega) (fun _ _ _ _ _ h => h.elim) (fun r3 H2 locs hq hF hS => ?_)
    have hLA := hLA.fr hF (by omega)
    obtain ⟨hr_, hOn⟩ := hq
    refine x_rw (z := bI true) hr_ ?_
    replace hOn : MO G y (nI L.length) (nI 1) H2 := hOn
    have hMT := hMT.setO hF hOn
    have hO := hOn
    refine x_if_neB (tgt := 43) hx hb dX3_built_24 (by decide) (fun c24 => ?_) (fun c24 => ?_)
    · refine lv_iconst (v := nI 0) hx hb dX3_built_43 (by decide) ?_
      exact x_iret hx hb hr hlocks h0 hS (by omega) (by omega) dX3_built_44 (MR.no n10 (rs3_1 (inB_two (n := 7) (by decide) (by first | exact Or.inl c5 | exact Or.inr c12))) (hMT.W hLA))
    · exact absurd c24 (by decide)
  · refine lv_iload_n hx hb dX3_built_8 rfl (lv_at hl 3 rfl) ?_
    refine x_goI_ro (x_runS (As := [.int z]) (rest := [.ref y]) ⟨hx, hb, hml, hown, hts⟩ hE h0 hS (c_X3_isSlot l G z H0) (va_cwS 1 hts gX3_built_X3_isSlot rfl rfl rfl (by decide +kernel) ⟨Nat.le_of_ble_eq_true rfl, Nat.le_of_ble_eq_true rfl⟩) (by omega) rfl rfl hl.1 rfl (lv_room (Nat.le_of_ble_eq_true rfl)) dX3_built_9 ⟨by first | exact Nat.le_of_ble_eq_true rfl | omega, by first | exact Nat.le_of_ble_eq_true rfl | omega⟩) hS (by omega) (fun _ _ _ _ _ h => h.elim) (fun locs hq hS => ?_)
    refine x_if_eqB (tgt := 19) hx hb dX3_built_12 (by decide) (fun c12 => ?_) (fun c12 => ?_)
    · refine lv_iconst (v := nI 0) hx hb dX3_built_19 (by decide) ?_
      refine x_rw (z := bI false) (by decide) ?_
      refine lv_iconst (v := nI 1) hx hb dX3_built_20 (by decide) ?_
      refine x_goI (x_runV (As := [.int (bI false), .int (nI 1)]) (rest := []) ⟨hx, hb, hml, hown, hts⟩ hE h0 hS (c_X3_no l G y (nI L.length) th false 1 H0 hO) (cwV 2 hts gX3_built_X3_no rfl rfl rfl (by decide +kernel) ⟨Nat.le_of_ble_eq_true rfl, Nat.le_of_ble_eq_true rfl⟩) (gO.recv (C := RX3) hK hO rfl) (by omega) rfl rfl hl.1 rfl (lv_room (Nat.le_of_ble_eq_true rfl)) dX3_built_21 ⟨by first | exact Nat.le_of_ble_eq_true rfl | omega, by first | exact Nat.le_of_ble_eq_true rfl | omega⟩) hS (by omega) (fun _ _ _ _ _ h => h.elim) (fun r6 H5 locs hq hF hS => ?_)
      have hLA := hLA.fr hF (by omega)
      obtain ⟨hr_, hOn⟩ := hq
      refine x_rw (z := bI true) hr_ ?_
      replace hOn : MO G y (nI L.length) (nI 1) H5 := hOn
      have hMT := hMT.setO hF hOn
      have hO := hOn
      refine x_if_neB (tgt := 43) hx hb dX3_built_24 (by decide) (fun c24 => ?_) (fun c24 => ?_)
      · refine lv_iconst (v := nI 0) hx hb dX3_built_43 (by decide) ?_
        exact x_iret hx hb hr hlocks h0 hS (by omega) (by omega) dX3_built_44 (MR.no n10 (rs3_1 (inB_two (n := 7) (by decide) (by first | exact Or.inl c5 | exact Or.inr c12))) (hMT.W hLA))
      · exact absurd c24 (by decide)
    · refine lv_iconst (v := nI 1) hx hb dX3_built_15 (by decide) ?_
      refine lv_goto (tgt := 20) hx hb dX3_built_16 (by decide) ?_
      refine x_rw (z := bI true) (by decide) ?_
      refine lv_iconst (v := nI 1) hx hb dX3_built_20 (by decide) ?_
      refine x_goI (x_runV (As := [.int (bI true), .int (nI 1)]) (rest := []) ⟨hx, hb, hml, hown, hts⟩ hE h0 hS (c_X3_no l G y (nI L.length) th true 1 H0 hO) (cwV 2 hts gX3_built_X3_no rfl rfl rfl (by decide +kernel) ⟨Nat.le_of_ble_eq_true rfl, Nat.le_of_ble_eq_true rfl⟩) (gO.recv (C := RX3) hK hO rfl) (by omega) rfl rfl hl.1 rfl (lv_room (Nat.le_of_ble_eq_true rfl)) dX3_built_21 ⟨by first | exact Nat.le_of_ble_eq_true rfl | omega, by first | exact Nat.le_of_ble_eq_true rfl | omega⟩) hS (by omega) (fun _ _ _ _ _ h => h.elim) (fun r8 H7 locs hq hF hS => ?_)
      have hLA := hLA.fr hF (by omega)
      obtain ⟨hr_, hOn⟩ := hq
      refine x_rw (z := bI false) hr_ ?_
      replace hOn : MO G y (nI L.length) 0 H7 := hOn
      have hMT := hMT.setO hF hOn
      have hO := hOn
      refine x_if_neB (tgt := 43) hx hb dX3_built_24 (by decide) (fun c24 => ?_) (fun c24 => ?_)
      · exact absurd c24 (by decide)
      · obtain ⟨i, hi, rfl⟩ := (inB_okN (n := 7) (by decide)).mp c5
        obtain ⟨j, hj, rfl⟩ := (inB_okN (n := 7) (by decide)).mp c12
        have hgi := hMT.gt (i := i) (by omega)
        have hle_i := hgi.le
        refine lv_aload_n hx hb dX3_built_27 rfl (lv_at hl 0 rfl) ?_
        refine lv_iload_n hx hb dX3_built_28 rfl (lv_at hl 2 rfl) ?_
        refine lv_iconst (v := nI 0) hx hb dX3_built_29 (by decide) ?_
        refine lv_sipush (v := nI 999) hx hb dX3_built_30 (by decide) ?_
        refine x_goI_ro (x_runS (As := [.int n, .int (nI 0), .int (nI 999)]) (rest := [.ref y]) ⟨hx, hb, hml, hown, hts⟩ hE h0 hS (c_X3_in l G n (nI 0) (nI 999) H7) (va_cwS 3 hts gX3_built_X3_in rfl rfl rfl (by decide +kernel) ⟨Nat.le_of_ble_eq_true rfl, Nat.le_of_ble_eq_true rfl⟩) (by omega) rfl rfl hl.1 rfl (lv_room (Nat.le_of_ble_eq_true rfl)) dX3_built_33 ⟨by first | exact Nat.le_of_ble_eq_true rfl | omega, by first | exact Nat.le_of_ble_eq_true rfl | omega⟩) hS (by omega) (fun _ _ _ _ _ h => h.elim) (fun locs hq hS => ?_)
        rcases Bool.eq_false_or_eq_true (inB n (nI 0) (nI 999)) with hn0 | hn0
        · refine x_rw (z := bI true) (congrArg bI hn0) ?_
          refine lv_iconst (v := nI 2) hx hb dX3_built_36 (by decide) ?_
          refine x_goI (x_runV (As := [.int (bI true), .int (nI 2)]) (rest := []) ⟨hx, hb, hml, hown, hts⟩ hE h0 hS (c_X3_no l G y (nI L.length) 0 true 2 H7 hO) (cwV 2 hts gX3_built_X3_no rfl rfl rfl (by decide +kernel) ⟨Nat.le_of_ble_eq_true rfl, Nat.le_of_ble_eq_true rfl⟩) (gO.recv (C := RX3) hK hO rfl) (by omega) rfl rfl hl.1 rfl (lv_room (Nat.le_of_ble_eq_true rfl)) dX3_built_37 ⟨by first | exact Nat.le_of_ble_eq_true rfl | omega, by first | exact Nat.le_of_ble_eq_true rfl | omega⟩) hS (by omega) (fun _ _ _ _ _ h => h.elim) (fun r11 H10 locs hq hF hS => ?_)
          have hLA := hLA.fr hF (by omega)
          obtain ⟨hr_, hOn⟩ := hq
          refine x_rw (z := bI false) hr_ ?_
          replace hOn : MO G y (nI L.length) 0 H10 := hOn
          have hMT := hMT.setO hF hOn
          have hO := hOn
          refine x_if_eqB (tgt := 45) hx hb dX3_built_40 (by decide) (fun c40 => ?_) (fun c40 => ?_)
          · obtain ⟨k, hk, rfl⟩ := (inB_okN (n := 999) (by decide)).mp hn0
            refine lv_aload_n hx hb dX3_built_45 rfl (lv_at hl 0 rfl) ?_
            refine lv_iconst (v := nI 0) hx hb dX3_built_46 (by decide) ?_
            refine lv_iload_n hx hb dX3_built_47 rfl (lv_at hl 1 rfl) ?_
            refine x_goV (x_runV (As := [.int (nI 0), .int (nI i)]) (rest := []) ⟨hx, hb, hml, hown, hts⟩ hE h0 hS (c_X3_look_ l G y T L txt tad 0 w 0 (by decide) i (by omega) H10 hMT hLA) (cwV 2 hts gX3_built_X3_look_ rfl rfl rfl (by decide +kernel) ⟨Nat.le_of_ble_eq_true rfl, Nat.le_of_ble_eq_true rfl⟩) (gO.recv (C := RX3) hK hO rfl) (by omega) rfl rfl hl.1 rfl (lv_room (Nat.le_of_ble_eq_true rfl)) dX3_built_48 ⟨by first | exact Nat.le_of_ble_eq_true rfl | omega, by first | exact Nat.le_of_ble_eq_true rfl | omega⟩) hS (by omega) (fun _ _ _ _ _ h => h.elim) (fun  H12 locs hq hF hS => ?_)
            have hO := hO.fr hF (by omega)
            have hMT := hMT.fr hF (by omega)
            have hLA := hq
            have hr3 : 1 < 3 := (by decide)
            obtain ⟨m13, m16, m25, lmid, ⟨fn, m12, hfn⟩, lcnt, ltok⟩ := id hLA
            obtain ⟨m17_s0, m26_s0⟩ := lmid 0 (by decide)
            obtain ⟨fm_s0, mm_s0, hfm_s0⟩ := lcnt 0 (by decide)
            replace hfm_s0 := hfm_s0 _ wset_self
            have h60_s0 := tk_le (txt i) 1
            obtain ⟨fs_s0, fe_s0, ms_s0, me_s0, hse_s0⟩ := ltok 0 (by decide) 1 hr3
            replace hse_s0 := hse_s0 _ wset_self
            have h60_2 := tk_le (txt i) 2
            refine lv_aload_n hx hb dX3_built_51 rfl (lv_at hl 0 rfl) ?_
            refine lv_aload_n hx hb dX3_built_52 rfl (lv_at hl 0 rfl) ?_
            refine x_get (ci := 3) hx hb hts hown hK rfl hw1 5 (by decide) hw0 hO rfl dX3_built_53 ?_
            refine lv_iconst (v := nI 0) hx hb dX3_built_56 (by decide) ?_
            refine x_aald (k := 3) (v := (y + 14 + 0)) hx hb hK (by decide) rfl m13 (by omega) (by decide) (by rw [rwk_at (by omega), Nat.one_mul]) dX3_built_57 ?_
            refine lv_iconst (v := nI 1) hx hb dX3_built_58 (by decide) ?_
            refine x_iald hx hb hK mm_s0 (by omega) (by decide) dX3_built_59 ?_
            refine x_rw (z := (nI ((tk (txt i) 1).length))) (hfm_s0 _ (by omega)) ?_
            refine x_if_leN (tgt := 87) hx hb (by omega) dX3_built_60 (by decide) (fun c60 => ?_) (fun c60 => ?_)
            · refine lv_iconst (v := nI 0) hx hb dX3_built_87 (by decide) ?_
              refine x_rw (z := bI false) (by decide) ?_
              refine lv_iconst (v := nI 3) hx hb dX3_built_88 (by decide) ?_
              refine x_goI (x_runV (As := [.int (bI false), .int (nI 3)]) (rest := []) ⟨hx, hb, hml, hown, hts⟩ hE h0 hS (c_X3_no l G y (nI L.length) 0 false 3 H12 hO) (cwV 2 hts gX3_built_X3_no rfl rfl rfl (by decide +kernel) ⟨Nat.le_of_ble_eq_true rfl, Nat.le_of_ble_eq_true rfl⟩) (gO.recv (C := RX3) hK hO rfl) (by omega) rfl rfl hl.1 rfl (lv_room (Nat.le_of_ble_eq_true rfl)) dX3_built_89 ⟨by first | exact Nat.le_of_ble_eq_true rfl | omega, by first | exact Nat.le_of_ble_eq_true rfl | omega⟩) hS (by omega) (fun _ _ _ _ _ h => h.elim) (fun r14 H13 locs hq hF hS => ?_)
              have m13 := m13.fr hF (by omega)
              have m16 := m16.fr hF (by omega)
              have m25 := m25.fr hF (by omega)
              have m12 := m12.fr hF (by omega)
              have mm_s0 := mm_s0.fr hF (by omega)
              have m17_s0 := m17_s0.fr hF (by omega)
              have m26_s0 := m26_s0.fr hF (by omega)
              have ms_s0 := ms_s0.fr hF (by omega)
              have me_s0 := me_s0.fr hF (by omega)
              have hLA := hLA.fr hF (by omega)
              obtain ⟨hr_, hOn⟩ := hq
              refine x_rw (z := bI true) hr_ ?_
              replace hOn : MO G y (nI L.length) (nI 3) H13 := hOn
              have hMT := hMT.setO hF hOn
              have hO := hOn
              refine x_if_eqB (tgt := 97) hx hb dX3_built_92 (by decide) (fun c92 => ?_) (fun c92 => ?_)
              · exact absurd c92 (by decide)
              · refine lv_iconst (v := nI 0) hx hb dX3_built_95 (by decide) ?_
                exact x_iret hx hb hr hlocks h0 hS (by omega) (by omega) dX3_built_96 (MR.no n30 (rs3_3 ⟨⟨i, hi, rfl⟩, j, hj, rfl⟩ ⟨k, hk, rfl⟩ (by rw [ix_N (by omega), ix_N (by omega)]; first | omega | (have := of_decide_eq_false c80; omega))) (hMT.W hLA))
            · refine lv_aload_n hx hb dX3_built_63 rfl (lv_at hl 0 rfl) ?_
              refine x_get (ci := 3) hx hb hts hown hK rfl hw1 5 (by decide) hw0 hO rfl dX3_built_64 ?_
              refine lv_iconst (v := nI 0) hx hb dX3_built_67 (by decide) ?_
              refine x_aald (k := 3) (v := (y + 14 + 0)) hx hb hK (by decide) rfl m13 (by omega) (by decide) (by rw [rwk_at (by omega), Nat.one_mul]) dX3_built_68 ?_
              refine lv_iconst (v := nI 2) hx hb dX3_built_69 (by decide) ?_
              refine x_iald hx hb hK mm_s0 (by omega) (by decide) dX3_built_70 ?_
              refine x_rw (z := (nI ((tk (txt i) 2).length))) (hfm_s0 _ (by omega)) ?_
              refine x_if_neN (tgt := 87) hx hb (by omega) dX3_built_71 (by decide) (fun c71 => ?_) (fun c71 => ?_)
              · refine lv_iconst (v := nI 0) hx hb dX3_built_87 (by decide) ?_
                refine x_rw (z := bI false) (by decide) ?_
                refine lv_iconst (v := nI 3) hx hb dX3_built_88 (by decide) ?_
                refine x_goI (x_runV (As := [.int (bI false), .int (nI 3)]) (rest := []) ⟨hx, hb, hml, hown, hts⟩ hE h0 hS (c_X3_no l G y (nI L.length) 0 false 3 H12 hO) (cwV 2 hts gX3_built_X3_no rfl rfl rfl (by decide +kernel) ⟨Nat.le_of_ble_eq_true rfl, Nat.le_of_ble_eq_true rfl⟩) (gO.recv (C := RX3) hK hO rfl) (by omega) rfl rfl hl.1 rfl (lv_room (Nat.le_of_ble_eq_true rfl)) dX3_built_89 ⟨by first | exact Nat.le_of_ble_eq_true rfl | omega, by first | exact Nat.le_of_ble_eq_true rfl | omega⟩) hS (by omega) (fun _ _ _ _ _ h => h.elim) (fun r16 H15 locs hq hF hS => ?_)
                have m13 := m13.fr hF (by omega)
                have m16 := m16.fr hF (by omega)
                have m25 := m25.fr hF (by omega)
                have m12 := m12.fr hF (by omega)
                have mm_s0 := mm_s0.fr hF (by omega)
                have m17_s0 := m17_s0.fr hF (by omega)
                have m26_s0 := m26_s0.fr hF (by omega)
                have ms_s0 := ms_s0.fr hF (by omega)
                have me_s0 := me_s0.fr hF (by omega)
                have hLA := hLA.fr hF (by omega)
                obtain ⟨hr_, hOn⟩ := hq
                refine x_rw (z := bI true) hr_ ?_
                replace hOn : MO G y (nI L.length) (nI 3) H15 := hOn
                have hMT := hMT.setO hF hOn
                have hO := hOn
                refine x_if_eqB (tgt := 97) hx hb dX3_built_92 (by decide) (fun c92 => ?_) (fun c92 => ?_)
                · exact absurd c92 (by decide)
                · refine lv_iconst (v := nI 0) hx hb dX3_built_95 (by decide) ?_
                  exact x_iret hx hb hr hlocks h0 hS (by omega) (by omega) dX3_built_96 (MR.no n30 (rs3_3 ⟨⟨i, hi, rfl⟩, j, hj, rfl⟩ ⟨k, hk, rfl⟩ (by rw [ix_N (by omega), ix_N (by omega)]; first | omega | (have := of_decide_eq_false c80; omega))) (hMT.W hLA))
              · refine lv_aload_n hx hb dX3_built_74 rfl (lv_at hl 0 rfl) ?_
                refine lv_iload_n hx hb dX3_built_75 rfl (lv_at hl 1 rfl) ?_
                refine lv_iload_n hx hb dX3_built_76 rfl (lv_at hl 2 rfl) ?_
                refine x_goI_ro (x_runV (As := [.int (nI i), .int (nI k)]) (rest := [.ref y]) ⟨hx, hb, hml, hown, hts⟩ hE h0 hS (c_X3_hasRoom l G y T L txt tad 0 i k (by omega) (by omega) H12 hMT) (cwV 2 hts gX3_built_X3_hasRoom rfl rfl rfl (by decide +kernel) ⟨Nat.le_of_ble_eq_true rfl, Nat.le_of_ble_eq_true rfl⟩) (gO.recv (C := RX3) hK hO rfl) (by omega) rfl rfl hl.1 rfl (lv_room (Nat.le_of_ble_eq_true rfl)) dX3_built_77 ⟨by first | exact Nat.le_of_ble_eq_true rfl | omega, by first | exact Nat.le_of_ble_eq_true rfl | omega⟩) hS (by omega) (fun _ _ _ _ _ h => h.elim) (fun locs hq hS => ?_)
                refine x_if_eqB (tgt := 87) hx hb dX3_built_80 (by decide) (fun c80 => ?_) (fun c80 => ?_)
                · refine lv_iconst (v := nI 0) hx hb dX3_built_87 (by decide) ?_
                  refine x_rw (z := bI false) (by decide) ?_
                  refine lv_iconst (v := nI 3) hx hb dX3_built_88 (by decide) ?_
                  refine x_goI (x_runV (As := [.int (bI false), .int (nI 3)]) (rest := []) ⟨hx, hb, hml, hown, hts⟩ hE h0 hS (c_X3_no l G y (nI L.length) 0 false 3 H12 hO) (cwV 2 hts gX3_built_X3_no rfl rfl rfl (by decide +kernel) ⟨Nat.le_of_ble_eq_true rfl, Nat.le_of_ble_eq_true rfl⟩) (gO.recv (C := RX3) hK hO rfl) (by omega) rfl rfl hl.1 rfl (lv_room (Nat.le_of_ble_eq_true rfl)) dX3_built_89 ⟨by first | exact Nat.le_of_ble_eq_true rfl | omega, by first | exact Nat.le_of_ble_eq_true rfl | omega⟩) hS (by omega) (fun _ _ _ _ _ h => h.elim) (fun r19 H18 locs hq hF hS => ?_)
                  have m13 := m13.fr hF (by omega)
                  have m16 := m16.fr hF (by omega)
                  have m25 := m25.fr hF (by omega)
                  have m12 := m12.fr hF (by omega)
                  have mm_s0 := mm_s0.fr hF (by omega)
                  have m17_s0 := m17_s0.fr hF (by omega)
                  have m26_s0 := m26_s0.fr hF (by omega)
                  have ms_s0 := ms_s0.fr hF (by omega)
                  have me_s0 := me_s0.fr hF (by omega)
                  have hLA := hLA.fr hF (by omega)
                  obtain ⟨hr_, hOn⟩ := hq
                  refine x_rw (z := bI true) hr_ ?_
                  replace hOn : MO G y (nI L.length) (nI 3) H18 := hOn
                  have hMT := hMT.setO hF hOn
                  have hO := hOn
                  refine x_if_eqB (tgt := 97) hx hb dX3_built_92 (by decide) (fun c92 => ?_) (fun c92 => ?_)
                  · exact absurd c92 (by decide)
                  · refine lv_iconst (v := nI 0) hx hb dX3_built_95 (by decide) ?_
                    exact x_iret hx hb hr hlocks h0 hS (by omega) (by omega) dX3_built_96 (MR.no n30 (rs3_3 ⟨⟨i, hi, rfl⟩, j, hj, rfl⟩ ⟨k, hk, rfl⟩ (by rw [ix_N (by omega), ix_N (by omega)]; first | omega | (have := of_decide_eq_false c80; omega))) (hMT.W hLA))
                · refine lv_iconst (v := nI 1) hx hb dX3_built_83 (by decide) ?_
                  refine lv_goto (tgt := 88) hx hb dX3_built_84 (by decide) ?_
                  refine x_rw (z := bI true) (by decide) ?_
                  refine lv_iconst (v := nI 3) hx hb dX3_built_88 (by decide) ?_
                  refine x_goI (x_runV (As := [.int (bI true), .int (nI 3)]) (rest := []) ⟨hx, hb, hml, hown, hts⟩ hE h0 hS (c_X3_no l G y (nI L.length) 0 true 3 H12 hO) (cwV 2 hts gX3_built_X3_no rfl rfl rfl (by decide +kernel) ⟨Nat.le_of_ble_eq_true rfl, Nat.le_of_ble_eq_true rfl⟩) (gO.recv (C := RX3) hK hO rfl) (by omega) rfl rfl hl.1 rfl (lv_room (Nat.le_of_ble_eq_true rfl)) dX3_built_89 ⟨by first | exact Nat.le_of_ble_eq_true rfl | omega, by first | exact Nat.le_of_ble_eq_true rfl | omega⟩) hS (by omega) (fun _ _ _ _ _ h => h.elim) (fun r21 H20 locs hq hF hS => ?_)
                  have m13 := m13.fr hF (by omega)
                  have m16 := m16.fr hF (by omega)
                  have m25 := m25.fr hF (by omega)
                  have m12 := m12.fr hF (by omega)
                  have mm_s0 := mm_s0.fr hF (by omega)
                  have m17_s0 := m17_s0.fr hF (by omega)
                  have m26_s0 := m26_s0.fr hF (by omega)
                  have ms_s0 := ms_s0.fr hF (by omega)
                  have me_s0 := me_s0.fr hF (by omega)
                  have hLA := hLA.fr hF (by omega)
                  obtain ⟨hr_, hOn⟩ := hq
                  refine x_rw (z := bI false) hr_ ?_
                  replace hOn : MO G y (nI L.length) 0 H20 := hOn
                  have hMT := hMT.setO hF hOn
                  have hO := hOn
                  refine x_if_eqB (tgt := 97) hx hb dX3_built_92 (by decide) (fun c92 => ?_) (fun c92 => ?_)
                  · have hroom := of_decide_eq_true c80
                    have gP : Gt (txt i ++ [43] ++ dg k) := Gt_plus hgi (by omega) (by omega)
                    refine lv_aload_n hx hb dX3_built_97 rfl (lv_at hl 0 rfl) ?_
                    refine lv_iload_n hx hb dX3_built_98 rfl (lv_at hl 1 rfl) ?_
                    refine lv_bipush (v := nI 43) hx hb dX3_built_99 (by decide) ?_
                    refine lv_iload_n hx hb dX3_built_101 rfl (lv_at hl 2 rfl) ?_
                    refine lv_iload_n hx hb dX3_built_102 rfl (lv_at hl 3 rfl) ?_
                    refine x_goI (x_runV (As := [.int (nI i), .int (nI 43), .int (nI k), .int (nI j)]) (rest := []) ⟨hx, hb, hml, hown, hts⟩ hE h0 hS (c_X3_behind l G y T L txt tad 0 (wset w 0 (tad i, tk (txt i))) i 43 k j (by omega) (by omega) (by omega) (by omega) (by omega) gP H20 hMT hLA) (cwV 4 hts gX3_built_X3_behind rfl rfl rfl (by decide +kernel) ⟨Nat.le_of_ble_eq_true rfl, Nat.le_of_ble_eq_true rfl⟩) (gO.recv (C := RX3) hK hO rfl) (by omega) rfl rfl hl.1 rfl (lv_room (Nat.le_of_ble_eq_true rfl)) dX3_built_103 ⟨by first | exact Nat.le_of_ble_eq_true rfl | omega, by first | exact Nat.le_of_ble_eq_true rfl | omega⟩) hS (by omega) (fun _ _ _ _ _ h => h.elim) (fun r23 H22 locs hq hF hS => ?_)
                    obtain ⟨rfl, hMW2⟩ := hq
                    exact x_iret hx hb hr hlocks h0 hS (by omega) (by omega) dX3_built_106 (MR.ok (rs3_y ⟨⟨i, hi, rfl⟩, j, hj, rfl⟩ ⟨k, hk, rfl⟩ (by rw [ix_N (by omega), ix_N (by omega)]; omega)) (by rw [ix_N (by omega), ix_N (by omega)]) (by rw [ix_N (by omega), ix_N (by omega), ix_N (by omega)]; exact hMW2))
                  · exact absurd c92 (by decide)
          · exact absurd c40 (by decide)
        · refine x_rw (z := bI false) (congrArg bI hn0) ?_
          refine lv_iconst (v := nI 2) hx hb dX3_built_36 (by decide) ?_
          refine x_goI (x_runV (As := [.int (bI false), .int (nI 2)]) (rest := []) ⟨hx, hb, hml, hown, hts⟩ hE h0 hS (c_X3_no l G y (nI L.length) 0 false 2 H7 hO) (cwV 2 hts gX3_built_X3_no rfl rfl rfl (by decide +kernel) ⟨Nat.le_of_ble_eq_true rfl, Nat.le_of_ble_eq_true rfl⟩) (gO.recv (C := RX3) hK hO rfl) (by omega) rfl rfl hl.1 rfl (lv_room (Nat.le_of_ble_eq_true rfl)) dX3_built_37 ⟨by first | exact Nat.le_of_ble_eq_true rfl | omega, by first | exact Nat.le_of_ble_eq_true rfl | omega⟩) hS (by omega) (fun _ _ _ _ _ h => h.elim) (fun r25 H24 locs hq hF hS => ?_)
          have hLA := hLA.fr hF (by omega)
          obtain ⟨hr_, hOn⟩ := hq
          refine x_rw (z := bI true) hr_ ?_
          replace hOn : MO G y (nI L.length) (nI 2) H24 := hOn
          have hMT := hMT.setO hF hOn
          have hO := hOn
          refine x_if_eqB (tgt := 45) hx hb dX3_built_40 (by decide) (fun c40 => ?_) (fun c40 => ?_)
          · exact absurd c40 (by decide)
          · refine lv_iconst (v := nI 0) hx hb dX3_built_43 (by decide) ?_
            exact x_iret hx hb hr hlocks h0 hS (by omega) (by omega) dX3_built_44 (MR.no n20 (rs3_2 ⟨⟨i, hi, rfl⟩, j, hj, rfl⟩ (fun g => inB_no hn0 (inB_okN (n := 999) (by decide)) g)) (hMT.W hLA))

abbrev RMX3_isHashed : Room := { frames := 3, cells := 0, slots := 0, locals := 54 }
set_option maxHeartbeats 4000000 in
set_option maxRecDepth 100000 in
theorem c_X3_isHashed (l : Launch) (G : gG) (y : Nat) (L : List Nat) (txt : Nat → List Nat) (th : Int32) (x : Int32) (H0 : Heap) (hMW : MW G y L txt th H0) : XM l yX3_isHashed wsX3_isHashed RMX3_isHashed G [.ref y, .int x] H0 y (y + 34) 0 0 (qI (fun r H1 => MR G y (rs1 (okN 8 x)) (r = bI true) L L txt txt H1)) xN := by
  refine x_ofW (cc := cX3_isHashed) (maxL := 2) (ret := (some .boolean)) (by decide) rfl (Nat.le_of_ble_eq_true rfl) ?_
  intro p e s m below meth c hx hb hr hml hown hts hlocks hout hin2 h0 hE ls hl
  replace hown : s.vm.findClass RX3 = some m.cls := hown
  have hK := hE.1
  have hS : va_S (gA y (y + 34) H0.size) H0 H0 [] := va_S.rf
  generalize hargs : ([.ref y, .int x] : List Value).toArray = args at hts ⊢
  have hl : lv_has ls 2 [(0, .ref y), (1, .int x)] := hl
  obtain ⟨tad, w, hMT, hLA⟩ := hMW
  generalize hTe : H0.size = T at hMT
  obtain ⟨hO, hTd, ⟨f2, hf2, hf2b⟩, ⟨f11, hf11, hf11b⟩, htx, hLd, hyT, hTs⟩ := id hMT
  have hTd0 := hTd
  obtain ⟨fd, hD, hDf, hDn, hDc⟩ := hTd
  have hTe2 : T = H0.size := hTe.symm
  refine lv_aload_n hx hb dX3_isHashed_0 rfl (lv_at hl 0 rfl) ?_
  refine lv_iload_n hx hb dX3_isHashed_1 rfl (lv_at hl 1 rfl) ?_
  refine x_goI_ro (x_runS (As := [.int x]) (rest := [.ref y]) ⟨hx, hb, hml, hown, hts⟩ hE h0 hS (c_X3_isSlot l G x H0) (va_cwS 1 hts gX3_isHashed_X3_isSlot rfl rfl rfl (by decide +kernel) ⟨Nat.le_of_ble_eq_true rfl, Nat.le_of_ble_eq_true rfl⟩) (by omega) rfl rfl hl.1 rfl (lv_room (Nat.le_of_ble_eq_true rfl)) dX3_isHashed_2 ⟨by first | exact Nat.le_of_ble_eq_true rfl | omega, by first | exact Nat.le_of_ble_eq_true rfl | omega⟩) hS (by omega) (fun _ _ _ _ _ h => h.elim) (fun locs hq hS => ?_)
  rcases Bool.eq_false_or_eq_true (inB x (nI 0) (nI 7)) with hs | hs
  · refine x_rw (z := bI true) (congrArg bI hs) ?_
    refine lv_iconst (v := nI 1) hx hb dX3_isHashed_5 (by decide) ?_
    refine x_goI (x_runV (As := [.int (bI true), .int (nI 1)]) (rest := []) ⟨hx, hb, hml, hown, hts⟩ hE h0 hS (c_X3_no l G y (nI L.length) th true 1 H0 hO) (cwV 2 hts gX3_isHashed_X3_no rfl rfl rfl (by decide +kernel) ⟨Nat.le_of_ble_eq_true rfl, Nat.le_of_ble_eq_true rfl⟩) (gO.recv (C := RX3) hK hO rfl) (by omega) rfl rfl hl.1 rfl (lv_room (Nat.le_of_ble_eq_true rfl)) dX3_isHashed_6 ⟨by first | exact Nat.le_of_ble_eq_true rfl | omega, by first | exact Nat.le_of_ble_eq_true rfl | omega⟩) hS (by omega) (fun _ _ _ _ _ h => h.elim) (fun r3 H2 locs hq hF hS => ?_)
    have hLA := hLA.fr hF (by omega)
    obtain ⟨hr_, hOn⟩ := hq
    refine x_rw (z := bI false) hr_ ?_
    replace hOn : MO G y (nI L.length) 0 H2 := hOn
    have hMT := hMT.setO hF hOn
    have hO := hOn
    refine x_if_neB (tgt := 16) hx hb dX3_isHashed_9 (by decide) (fun c9 => ?_) (fun c9 => ?_)
    · exact absurd c9 (by decide)
    · obtain ⟨i, hi, rfl⟩ := (inB_okN (n := 7) (by decide)).mp hs
      refine lv_iconst (v := nI 1) hx hb dX3_isHashed_12 (by decide) ?_
      refine lv_goto (tgt := 17) hx hb dX3_isHashed_13 (by decide) ?_
      exact x_zret hx hb hr hlocks h0 hS (by omega) (by omega) dX3_isHashed_17 (by first | rfl | exact bI_nar _) (MR.ok (rs1_y ⟨i, hi, rfl⟩) rfl (hMT.W hLA))
  · refine x_rw (z := bI false) (congrArg bI hs) ?_
    refine lv_iconst (v := nI 1) hx hb dX3_isHashed_5 (by decide) ?_
    refine x_goI (x_runV (As := [.int (bI false), .int (nI 1)]) (rest := []) ⟨hx, hb, hml, hown, hts⟩ hE h0 hS (c_X3_no l G y (nI L.length) th false 1 H0 hO) (cwV 2 hts gX3_isHashed_X3_no rfl rfl rfl (by decide +kernel) ⟨Nat.le_of_ble_eq_true rfl, Nat.le_of_ble_eq_true rfl⟩) (gO.recv (C := RX3) hK hO rfl) (by omega) rfl rfl hl.1 rfl (lv_room (Nat.le_of_ble_eq_true rfl)) dX3_isHashed_6 ⟨by first | exact Nat.le_of_ble_eq_true rfl | omega, by first | exact Nat.le_of_ble_eq_true rfl | omega⟩) hS (by omega) (fun _ _ _ _ _ h => h.elim) (fun r5 H4 locs hq hF hS => ?_)
    have hLA := hLA.fr hF (by omega)
    obtain ⟨hr_, hOn⟩ := hq
    refine x_rw (z := bI true) hr_ ?_
    replace hOn : MO G y (nI L.length) (nI 1) H4 := hOn
    have hMT := hMT.setO hF hOn
    have hO := hOn
    refine x_if_neB (tgt := 16) hx hb dX3_isHashed_9 (by decide) (fun c9 => ?_) (fun c9 => ?_)
    · refine lv_iconst (v := nI 0) hx hb dX3_isHashed_16 (by decide) ?_
      exact x_zret hx hb hr hlocks h0 hS (by omega) (by omega) dX3_isHashed_17 (by first | rfl | exact bI_nar _) (MR.no n10 (rs1_1 (fun g => inB_no hs (inB_okN (n := 7) (by decide)) g)) (hMT.W hLA))
    · exact absurd c9 (by decide)

abbrev RMX3_isTrue : Room := { frames := 1, cells := 0, slots := 0, locals := 12 }
set_option maxHeartbeats 4000000 in
set_option maxRecDepth 100000 in
theorem c_X3_isTrue (l : Launch) (G : gG) (y : Nat) (L : List Nat) (txt : Nat → List Nat) (th : Int32) (H0 : Heap) (hMW : MW G y L txt th H0) : XM l yX3_isTrue wsX3_isTrue RMX3_isTrue G [.ref y] H0 y (y + 34) 0 0 (qI (fun r H1 => r = bI true ∧ MW G y L txt 0 H1)) xN := by
  refine x_ofW (cc := cX3_isTrue) (maxL := 1) (ret := (some .boolean)) (by decide) rfl (Nat.le_of_ble_eq_true rfl) ?_
  intro p e s m below meth c hx hb hr hml hown hts hlocks hout hin2 h0 hE ls hl
  replace hown : s.vm.findClass RX3 = some m.cls := hown
  have hK := hE.1
  have hS : va_S (gA y (y + 34) H0.size) H0 H0 [] := va_S.rf
  generalize hargs : ([.ref y] : List Value).toArray = args at hts ⊢
  have hw0 := hts (.fieldLink RX3 39 "ReleaseledgerModel" "thrown" "I") (by decide +kernel)
  have hw1 : ∀ w ∈ u_ws RX3 TX3 9, w ∈ wsX3_isTrue := by decide +kernel
  have hl : lv_has ls 1 [(0, .ref y)] := hl
  obtain ⟨tad, w, hMT, hLA⟩ := hMW
  generalize hTe : H0.size = T at hMT
  obtain ⟨hO, hTd, ⟨f2, hf2, hf2b⟩, ⟨f11, hf11, hf11b⟩, htx, hLd, hyT, hTs⟩ := id hMT
  have hTd0 := hTd
  obtain ⟨fd, hD, hDf, hDn, hDc⟩ := hTd
  have hTe2 : T = H0.size := hTe.symm
  refine lv_aload_n hx hb dX3_isTrue_0 rfl (lv_at hl 0 rfl) ?_
  refine lv_iconst (v := nI 0) hx hb dX3_isTrue_1 (by decide) ?_
  refine x_put (ci := 3) hx hb hts hown hK rfl hw1 tyX3_ok nmX3 8 (by decide) hw0 rfl (tyX3_ok 8 (by decide)) rfl rfl hO (Nat.le_of_ble_eq_true rfl) hS (by unfold gA; omega) dX3_isTrue_2 (fun H1 locs hO hF hz hS => ?_)
  have hO : gO G y 3 [.ref (y + 1), .int (nI L.length), .ref (y + 2), .ref (y + 11), .ref (y + 12), .ref (y + 13), .ref (y + 16), .ref (y + 25), .int (nI 0)] H1 := hO
  have hLA := hLA.fr hF (by omega)
  have hMT := hMT.setO (th2 := 0) hF hO
  refine lv_iconst (v := nI 1) hx hb dX3_isTrue_5 (by decide) ?_
  exact x_zret hx hb hr hlocks h0 hS (by omega) (by omega) dX3_isTrue_6 (by first | rfl | exact bI_nar _) (⟨rfl, hMT.W hLA⟩)

abbrev RMX3_checksum : Room := { frames := 1, cells := 0, slots := 0, locals := 12 }
set_option maxHeartbeats 4000000 in
set_option maxRecDepth 100000 in
theorem c_X3_checksum (l : Launch) (G : gG) (y : Nat) (L : List Nat) (txt : Nat → List Nat) (th : Int32) (H0 : Heap) (hMW : MW G y L txt th H0) : XM l yX3_checksum wsX3_checksum RMX3_checksum G [.ref y] H0 y (y + 34) 0 0 (qL (fun r H1 => r = chs txt (adl L 23 L.length) 8 ∧ MW G y L txt 0 H1)) xN := by
  refine x_ofW (cc := cX3_checksum) (maxL := 5) (ret := (some .long)) (by decide) rfl (Nat.le_of_ble_eq_true rfl) ?_
  intro p e s m below meth c hx hb hr hml hown hts hlocks hout hin2 h0 hE ls hl
  replace hown : s.vm.findClass RX3 = some m.cls := hown
  have hK := hE.1
  have hS : va_S (gA y (y + 34) H0.size) H0 H0 [] := va_S.rf
  generalize hargs : ([.ref y] : List Value).toArray = args at hts ⊢
  have hw0 := hts (.fieldLink RX3 39 "ReleaseledgerModel" "thrown" "I") (by decide +kernel)
  have hw1 : ∀ w ∈ u_ws RX3 TX3 9, w ∈ wsX3_checksum := by decide +kernel
  have hw2 := hts (.constantLong RX3 138 (23)) (by decide +kernel)
  have hw3 := hts (.constantLong RX3 140 (31)) (by decide +kernel)
  have hw4 := hts (.fieldLink RX3 92 "ReleaseledgerModel" "draftSize" "I") (by decide +kernel)
  have hw5 := hts (.fieldLink RX3 18 "ReleaseledgerModel" "sizes" "[I") (by decide +kernel)
  have hw6 := hts (.fieldLink RX3 15 "ReleaseledgerModel" "texts" "[[C") (by decide +kernel)
  have hw7 := hts (.fieldLink RX3 9 "ReleaseledgerModel" "draft" "[C") (by decide +kernel)
  have hl : lv_has ls 5 [(0, .ref y)] := hl
  obtain ⟨tad, w, hMT, hLA⟩ := hMW
  generalize hTe : H0.size = T at hMT
  obtain ⟨hO, hTd, ⟨f2, hf2, hf2b⟩, ⟨f11, hf11, hf11b⟩, htx, hLd, hyT, hTs⟩ := id hMT
  have hTd0 := hTd
  obtain ⟨fd, hD, hDf, hDn, hDc⟩ := hTd
  have hTe2 : T = H0.size := hTe.symm
  refine lv_aload_n hx hb dX3_checksum_0 rfl (lv_at hl 0 rfl) ?_
  refine lv_iconst (v := nI 0) hx hb dX3_checksum_1 (by decide) ?_
  refine x_put (ci := 3) hx hb hts hown hK rfl hw1 tyX3_ok nmX3 8 (by decide) hw0 rfl (tyX3_ok 8 (by decide)) rfl rfl hO (Nat.le_of_ble_eq_true rfl) hS (by unfold gA; omega) dX3_checksum_2 (fun H1 locs hO hF hz hS => ?_)
  have hO : gO G y 3 [.ref (y + 1), .int (nI L.length), .ref (y + 2), .ref (y + 11), .ref (y + 12), .ref (y + 13), .ref (y + 16), .ref (y + 25), .int (nI 0)] H1 := hO
  have hf2 := hf2.fr hF (by omega)
  have hf11 := hf11.fr hF (by omega)
  have hD := hD.fr hF (by omega)
  have hLA := hLA.fr hF (by omega)
  have hMT := hMT.setO (th2 := 0) hF hO
  refine lv_ldc2 hx hb hown hw2 dX3_checksum_5 ?_
  refine lv_lstore_n (lv' := [(1, .long 23), (0, .ref y)]) hx hb dX3_checksum_8 rfl hl (by decide) rfl (fun ls hl => ?_)
  refine lv_ldc2 hx hb hown hw3 dX3_checksum_9 ?_
  refine lv_lload_n hx hb dX3_checksum_12 rfl (lv_at hl 0 rfl) ?_
  refine lv_lmul hx hb dX3_checksum_13 ?_
  refine lv_aload_n hx hb dX3_checksum_14 rfl (lv_at hl 1 rfl) ?_
  refine x_get (ci := 3) hx hb hts hown hK rfl hw1 1 (by decide) hw4 hO rfl dX3_checksum_15 ?_
  refine lv_i2l (v := lN L.length) hx hb dX3_checksum_18 (nI_l (by omega)) ?_
  refine lv_ladd hx hb dX3_checksum_19 ?_
  refine lv_lstore_n (lv' := [(1, .long ((31 * 23) + (lN L.length))), (0, .ref y)]) hx hb dX3_checksum_20 rfl hl (by decide) rfl (fun ls hl => ?_)
  refine lv_iconst (v := nI 0) hx hb dX3_checksum_21 (by decide) ?_
  refine lv_istore_n (lv' := [(3, .int (nI 0)), (1, .long ((31 * 23) + (lN L.length))), (0, .ref y)]) hx hb dX3_checksum_22 rfl hl (by decide) rfl (fun ls hl => ?_)
  have loop23 : ∀ (fu : Nat) (t : Int64) (i : Nat) (ht : t = adl L 23 i) (hi : i ≤ L.length) (locs : List Loc) (hS : va_S (gA y (y + 34) H0.size) H0 H1 locs) (ls : Array Slot), L.length - i < fu → lv_has ls 5 [(3, .int (nI i)), (1, .long t), (0, .ref y)] → W p l e RMX3_checksum s m args below meth c H1 locs 0 0 (XQ below args s H0 y (y + 34) 0 0 (qL (fun r H1 => r = chs txt (adl L 23 L.length) 8 ∧ MW G y L txt 0 H1)) xN) (F0 m 23 ls []) := by
    intro fu23
    induction fu23 with
    | zero => intro t i ht hi locs hS  ls hmu; exact absurd hmu (Nat.not_lt_zero _)
    | succ fu23 ih23 =>
      intro t i ht hi locs hS  ls hmu23 hl
      refine lv_iload_n hx hb dX3_checksum_23 rfl (lv_at hl 0 rfl) ?_
      refine lv_aload_n hx hb dX3_checksum_24 rfl (lv_at hl 2 rfl) ?_
      refine x_get (ci := 3) hx hb hts hown hK rfl hw1 1 (by decide) hw4 hO rfl dX3_checksum_25 ?_
      refine x_icmp_ge (tgt := 51) hx hb (by omega) (by omega) dX3_checksum_28 (by decide) (fun c28 => ?_) (fun c28 => ?_)
      · refine lv_iconst (v := nI 0) hx hb dX3_checksum_51 (by decide) ?_
        refine lv_istore_n (lv' := [(3, .int (nI 0)), (1, .long t), (0, .ref y)]) hx hb dX3_checksum_52 rfl hl (by decide) rfl (fun ls hl => ?_)
        have loop53 : ∀ (fu : Nat) (v : Int64) (j : Nat) (hv : v = chs txt (adl L 23 L.length) j) (hj : j ≤ 8) (locs : List Loc) (hS : va_S (gA y (y + 34) H0.size) H0 H1 locs) (ls : Array Slot), 8 - j < fu → lv_has ls 5 [(3, .int (nI j)), (1, .long v), (0, .ref y)] → W p l e RMX3_checksum s m args below meth c H1 locs 0 0 (XQ below args s H0 y (y + 34) 0 0 (qL (fun r H1 => r = chs txt (adl L 23 L.length) 8 ∧ MW G y L txt 0 H1)) xN) (F0 m 53 ls []) := by
          intro fu53
          induction fu53 with
          | zero => intro v j hv hj locs hS  ls hmu; exact absurd hmu (Nat.not_lt_zero _)
          | succ fu53 ih53 =>
            intro v j hv hj locs hS  ls hmu53 hl
            refine lv_iload_n hx hb dX3_checksum_53 rfl (lv_at hl 0 rfl) ?_
            refine lv_bipush (v := nI 8) hx hb dX3_checksum_54 (by decide) ?_
            refine x_icmp_ge (tgt := 116) hx hb (by omega) (by omega) dX3_checksum_56 (by decide) (fun c56 => ?_) (fun c56 => ?_)
            · refine lv_lload_n hx hb dX3_checksum_116 rfl (lv_at hl 1 rfl) ?_
              exact x_lret hx hb hr hlocks h0 hS (by omega) (by omega) dX3_checksum_117 (⟨by rw [hv, show j = 8 by omega], hMT.W hLA⟩)
            · have hle_j := (hMT.gt (i := j) (by omega)).le
              refine lv_ldc2 hx hb hown hw3 dX3_checksum_59 ?_
              refine lv_lload_n hx hb dX3_checksum_62 rfl (lv_at hl 1 rfl) ?_
              refine lv_lmul hx hb dX3_checksum_63 ?_
              refine lv_aload_n hx hb dX3_checksum_64 rfl (lv_at hl 2 rfl) ?_
              refine x_get (ci := 3) hx hb hts hown hK rfl hw1 3 (by decide) hw5 hO rfl dX3_checksum_65 ?_
              refine lv_iload_n hx hb dX3_checksum_68 rfl (lv_at hl 0 rfl) ?_
              refine x_iald hx hb hK hf11 (by omega) (by decide) dX3_checksum_69 ?_
              refine x_rw (z := (nI ((txt j).length))) (hf11b _ (by omega)) ?_
              refine lv_i2l (v := lN ((txt j).length)) hx hb dX3_checksum_70 (nI_l (by omega)) ?_
              refine lv_ladd hx hb dX3_checksum_71 ?_
              refine lv_lstore_n (lv' := [(1, .long ((31 * v) + (lN ((txt j).length)))), (3, .int (nI j)), (0, .ref y)]) hx hb dX3_checksum_72 rfl hl (by decide) rfl (fun ls hl => ?_)
              refine lv_iconst (v := nI 0) hx hb dX3_checksum_73 (by decide) ?_
              refine lv_istore (lv' := [(4, .int (nI 0)), (1, .long ((31 * v) + (lN ((txt j).length)))), (3, .int (nI j)), (0, .ref y)]) hx hb dX3_checksum_74 hl (by decide) rfl (fun ls hl => ?_)
              have loop76 : ∀ (fu : Nat) (u : Int64) (k : Nat) (hu : u = adl (txt j) v k) (hk : k ≤ (txt j).length) (locs : List Loc) (hS : va_S (gA y (y + 34) H0.size) H0 H1 locs) (ls : Array Slot), (txt j).length - k < fu → lv_has ls 5 [(4, .int (nI k)), (3, .int (nI j)), (1, .long u), (0, .ref y)] → W p l e RMX3_checksum s m args below meth c H1 locs 0 0 (XQ below args s H0 y (y + 34) 0 0 (qL (fun r H1 => r = chs txt (adl L 23 L.length) 8 ∧ MW G y L txt 0 H1)) xN) (F0 m 76 ls []) := by
                intro fu76
                induction fu76 with
                | zero => intro u k hu hk locs hS  ls hmu; exact absurd hmu (Nat.not_lt_zero _)
                | succ fu76 ih76 =>
                  intro u k hu hk locs hS  ls hmu76 hl
                  refine lv_iload hx hb dX3_checksum_76 (lv_at hl 0 rfl) ?_
                  refine lv_aload_n hx hb dX3_checksum_78 rfl (lv_at hl 3 rfl) ?_
                  refine x_get (ci := 3) hx hb hts hown hK rfl hw1 3 (by decide) hw5 hO rfl dX3_checksum_79 ?_
                  refine lv_iload_n hx hb dX3_checksum_82 rfl (lv_at hl 1 rfl) ?_
                  refine x_iald hx hb hK hf11 (by omega) (by decide) dX3_checksum_83 ?_
                  refine x_rw (z := (nI ((txt j).length))) (hf11b _ (by omega)) ?_
                  refine x_icmp_ge (tgt := 110) hx hb (by omega) (by omega) dX3_checksum_84 (by decide) (fun c84 => ?_) (fun c84 => ?_)
                  · refine lv_iinc (v := nI (j + 1)) (lv' := [(3, .int (nI (j + 1))), (4, .int (nI k)), (1, .long u), (0, .ref y)]) hx hb dX3_checksum_110 hl (k := 1) rfl (nI_1 _) (by decide) rfl (fun ls hl => ?_)
                    refine lv_goto (tgt := 53) hx hb dX3_checksum_113 (by decide) ?_
                    exact ih53 u (j + 1) (by rw [hu, show k = (txt j).length by omega, hv]; rfl) (by omega) _ hS ls (by omega) (lv_sub hl [0, 2, 3] rfl)
                  · obtain ⟨ft_a, hTa_a, hTf_a, hTn_a, hTc_a⟩ := (hMT.tx (i := j) (by omega))
                    have hcl := hTc_a _ (cg_mem (L := txt j) (i := k) (by omega))
                    refine lv_ldc2 hx hb hown hw3 dX3_checksum_87 ?_
                    refine lv_lload_n hx hb dX3_checksum_90 rfl (lv_at hl 2 rfl) ?_
                    refine lv_lmul hx hb dX3_checksum_91 ?_
                    refine lv_aload_n hx hb dX3_checksum_92 rfl (lv_at hl 3 rfl) ?_
                    refine x_get (ci := 3) hx hb hts hown hK rfl hw1 2 (by decide) hw6 hO rfl dX3_checksum_93 ?_
                    refine lv_iload_n hx hb dX3_checksum_96 rfl (lv_at hl 1 rfl) ?_
                    refine x_aald (k := 4) (v := (tad j)) hx hb hK (by decide) rfl hf2 (by omega) (by decide) (hf2b _ (by omega)) dX3_checksum_97 ?_
                    refine lv_iload hx hb dX3_checksum_98 (lv_at hl 0 rfl) ?_
                    refine x_cald hx hb hK hTa_a (by omega) (by decide) dX3_checksum_100 ?_
                    refine x_rw (z := (nI (cg (txt j) k))) (hTf_a _ (by omega)) ?_
                    refine lv_i2l (v := lN (cg (txt j) k)) hx hb dX3_checksum_101 (nI_l (by omega)) ?_
                    refine lv_ladd hx hb dX3_checksum_102 ?_
                    refine lv_lstore_n (lv' := [(1, .long ((31 * u) + (lN (cg (txt j) k)))), (4, .int (nI k)), (3, .int (nI j)), (0, .ref y)]) hx hb dX3_checksum_103 rfl hl (by decide) rfl (fun ls hl => ?_)
                    refine lv_iinc (v := nI (k + 1)) (lv' := [(4, .int (nI (k + 1))), (1, .long ((31 * u) + (lN (cg (txt j) k)))), (3, .int (nI j)), (0, .ref y)]) hx hb dX3_checksum_104 hl (k := 1) rfl (nI_1 _) (by decide) rfl (fun ls hl => ?_)
                    refine lv_goto (tgt := 76) hx hb dX3_checksum_107 (by decide) ?_
                    exact ih76 ((31 * u) + (lN (cg (txt j) k))) (k + 1) (by rw [hu]; rfl) (by omega) _ hS ls (by omega) (lv_sub hl [0, 2, 1, 3] rfl)
              exact loop76 _ ((31 * v) + (lN ((txt j).length))) 0 rfl (by omega) _ hS ls (Nat.lt_succ_self _) (lv_sub hl [0, 2, 1, 3] rfl)
        exact loop53 _ t 0 (by rw [ht, show i = L.length by omega]; rfl) (by omega) _ hS ls (Nat.lt_succ_self _) (lv_sub hl [0, 1, 2] rfl)
      · have hcl := hDc _ (cg_mem (L := L) (i := i) (by omega))
        refine lv_ldc2 hx hb hown hw3 dX3_checksum_31 ?_
        refine lv_lload_n hx hb dX3_checksum_34 rfl (lv_at hl 1 rfl) ?_
        refine lv_lmul hx hb dX3_checksum_35 ?_
        refine lv_aload_n hx hb dX3_checksum_36 rfl (lv_at hl 2 rfl) ?_
        refine x_get (ci := 3) hx hb hts hown hK rfl hw1 0 (by decide) hw7 hO rfl dX3_checksum_37 ?_
        refine lv_iload_n hx hb dX3_checksum_40 rfl (lv_at hl 0 rfl) ?_
        refine x_cald hx hb hK hD (by omega) (by decide) dX3_checksum_41 ?_
        refine x_rw (z := (nI (cg L i))) (hDf _ (by omega)) ?_
        refine lv_i2l (v := lN (cg L i)) hx hb dX3_checksum_42 (nI_l (by omega)) ?_
        refine lv_ladd hx hb dX3_checksum_43 ?_
        refine lv_lstore_n (lv' := [(1, .long ((31 * t) + (lN (cg L i)))), (3, .int (nI i)), (0, .ref y)]) hx hb dX3_checksum_44 rfl hl (by decide) rfl (fun ls hl => ?_)
        refine lv_iinc (v := nI (i + 1)) (lv' := [(3, .int (nI (i + 1))), (1, .long ((31 * t) + (lN (cg L i)))), (0, .ref y)]) hx hb dX3_checksum_45 hl (k := 1) rfl (nI_1 _) (by decide) rfl (fun ls hl => ?_)
        refine lv_goto (tgt := 23) hx hb dX3_checksum_48 (by decide) ?_
        exact ih23 ((31 * t) + (lN (cg L i))) (i + 1) (by rw [ht]; rfl) (by omega) _ hS ls (by omega) (lv_sub hl [0, 1, 2] rfl)
  exact loop23 _ ((31 * 23) + (lN L.length)) 0 rfl (by omega) _ hS ls (Nat.lt_succ_self _) (lv_sub hl [0, 1, 2] rfl)
