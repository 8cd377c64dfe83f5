abbrev RMX1_rowBehind : Room := { frames := 1, cells := 0, slots := 0, locals := 12 }
set_option maxHeartbeats 4000000 in
set_option maxRecDepth 100000 in
/-- the row behind a joint -/
theorem c_X1_rowBehind (l : Launch) (G : gG) (r ch : Nat) (hr3 : r < 3) (hch : ch < 65536) (H0 : Heap)  : XM l yX1_rowBehind wsX1_rowBehind RMX1_rowBehind G [.int (nI r), .int (nI ch)] H0 0 0 0 0 (roI H0 (nI (rowB r ch)) True) xN := by
  refine x_ofW (cc := cX1_rowBehind) (maxL := 2) (ret := (some .int)) (by decide) rfl (Nat.le_of_ble_eq_true rfl) ?_
  intro p e s m below meth c hx hb hr hml hown hts hlocks hout hin2 h0 hE ls hl
  replace hown : s.vm.findClass RX1 = some m.cls := hown
  have hK := hE.1
  have hS : va_S (gA 0 0 H0.size) H0 H0 [] := va_S.rf
  generalize hargs : ([.int (nI r), .int (nI ch)] : List Value).toArray = args at hts ⊢
  have hl : lv_has ls 2 [(0, .int (nI r)), (1, .int (nI ch))] := hl
  refine lv_iload_n hx hb dX1_rowBehind_0 rfl (lv_at hl 0 rfl) ?_
  refine x_if_neN (tgt := 12) hx hb (by omega) dX1_rowBehind_1 (by decide) (fun c1 => ?_) (fun c1 => ?_)
  · refine lv_iload_n hx hb dX1_rowBehind_12 rfl (lv_at hl 0 rfl) ?_
    refine lv_iconst (v := nI 1) hx hb dX1_rowBehind_13 (by decide) ?_
    refine x_icmp_ne (tgt := 25) hx hb (by omega) (by omega) dX1_rowBehind_14 (by decide) (fun c14 => ?_) (fun c14 => ?_)
    · refine lv_iload_n hx hb dX1_rowBehind_25 rfl (lv_at hl 0 rfl) ?_
      exact x_iret hx hb hr hlocks h0 hS (by omega) (by omega) dX1_rowBehind_26 (⟨rfl, by rw [rowB_3 (by omega) (by omega)], trivial⟩)
    · refine lv_iload_n hx hb dX1_rowBehind_17 rfl (lv_at hl 1 rfl) ?_
      refine lv_bipush (v := nI 43) hx hb dX1_rowBehind_18 (by decide) ?_
      refine x_icmp_ne (tgt := 25) hx hb (by omega) (by omega) dX1_rowBehind_20 (by decide) (fun c20 => ?_) (fun c20 => ?_)
      · refine lv_iload_n hx hb dX1_rowBehind_25 rfl (lv_at hl 0 rfl) ?_
        exact x_iret hx hb hr hlocks h0 hS (by omega) (by omega) dX1_rowBehind_26 (⟨rfl, by rw [rowB_3 (by omega) (by omega)], trivial⟩)
      · refine lv_iconst (v := nI 2) hx hb dX1_rowBehind_23 (by decide) ?_
        exact x_iret hx hb hr hlocks h0 hS (by omega) (by omega) dX1_rowBehind_24 (⟨rfl, by rw [show r = 1 by omega, rowB_2 (by omega)], trivial⟩)
  · refine lv_iload_n hx hb dX1_rowBehind_4 rfl (lv_at hl 1 rfl) ?_
    refine lv_bipush (v := nI 45) hx hb dX1_rowBehind_5 (by decide) ?_
    refine x_icmp_ne (tgt := 12) hx hb (by omega) (by omega) dX1_rowBehind_7 (by decide) (fun c7 => ?_) (fun c7 => ?_)
    · refine lv_iload_n hx hb dX1_rowBehind_12 rfl (lv_at hl 0 rfl) ?_
      refine lv_iconst (v := nI 1) hx hb dX1_rowBehind_13 (by decide) ?_
      refine x_icmp_ne (tgt := 25) hx hb (by omega) (by omega) dX1_rowBehind_14 (by decide) (fun c14 => ?_) (fun c14 => ?_)
      · refine lv_iload_n hx hb dX1_rowBehind_25 rfl (lv_at hl 0 rfl) ?_
        exact x_iret hx hb hr hlocks h0 hS (by omega) (by omega) dX1_rowBehind_26 (⟨rfl, by rw [rowB_3 (by omega) (by omega)], trivial⟩)
      · refine lv_iload_n hx hb dX1_rowBehind_17 rfl (lv_at hl 1 rfl) ?_
        refine lv_bipush (v := nI 43) hx hb dX1_rowBehind_18 (by decide) ?_
        refine x_icmp_ne (tgt := 25) hx hb (by omega) (by omega) dX1_rowBehind_20 (by decide) (fun c20 => ?_) (fun c20 => ?_)
        · refine lv_iload_n hx hb dX1_rowBehind_25 rfl (lv_at hl 0 rfl) ?_
          exact x_iret hx hb hr hlocks h0 hS (by omega) (by omega) dX1_rowBehind_26 (⟨rfl, by rw [rowB_3 (by omega) (by omega)], trivial⟩)
        · refine lv_iconst (v := nI 2) hx hb dX1_rowBehind_23 (by decide) ?_
          exact x_iret hx hb hr hlocks h0 hS (by omega) (by omega) dX1_rowBehind_24 (⟨rfl, by rw [show r = 1 by omega, rowB_2 (by omega)], trivial⟩)
    · refine lv_iconst (v := nI 1) hx hb dX1_rowBehind_10 (by decide) ?_
      exact x_iret hx hb hr hlocks h0 hS (by omega) (by omega) dX1_rowBehind_11 (⟨rfl, by rw [show r = 0 by omega, rowB_1 (by omega)], trivial⟩)

abbrev RMX1_tokensIn : Room := { frames := 1, cells := 0, slots := 0, locals := 12 }
set_option maxHeartbeats 4000000 in
set_option maxRecDepth 100000 in
theorem c_X1_tokensIn (l : Launch) (G : gG) (v : Nat) (L : List Nat) (T : Tk) (r : Nat) (hr3 : r < 3) (H0 : Heap) (hV : VR G v L T H0) : XM l yX1_tokensIn wsX1_tokensIn RMX1_tokensIn G [.ref v, .int (nI r)] H0 0 0 0 0 (roI H0 (nI (T r).length) True) xN := by
  refine x_ofW (cc := cX1_tokensIn) (maxL := 2) (ret := (some .int)) (by decide) rfl (Nat.le_of_ble_eq_true rfl) ?_
  intro p e s m below meth c hx hb hr hml hown hts hlocks hout hin2 h0 hE ls hl
  replace hown : s.vm.findClass RX1 = some m.cls := hown
  have hK := hE.1
  have hS : va_S (gA 0 0 H0.size) H0 H0 [] := va_S.rf
  generalize hargs : ([.ref v, .int (nI r)] : List Value).toArray = args at hts ⊢
  have hw0 := hts (.fieldLink RX1 26 "Releaseledger$Version" "counts" "[I") (by decide +kernel)
  have hw1 : ∀ w ∈ u_ws RX1 TX1 4, w ∈ wsX1_tokensIn := by decide +kernel
  have hl : lv_has ls 2 [(0, .ref v), (1, .int (nI r))] := hl
  have hO := hV.1.1
  have hSt := hV.1.2.1
  have hSz := hV.1.2.2
  obtain ⟨fc, hC, hc⟩ := hV.2.2.1
  have h60 := hV.2.2.2.2
  refine lv_iload_n hx hb dX1_tokensIn_0 rfl (lv_at hl 1 rfl) ?_
  refine x_if_ltN (tgt := 18) hx hb (by omega) dX1_tokensIn_1 (by decide) ?_
  refine lv_iload_n hx hb dX1_tokensIn_4 rfl (lv_at hl 1 rfl) ?_
  refine lv_iconst (v := nI 3) hx hb dX1_tokensIn_5 (by decide) ?_
  refine x_icmp_ge (tgt := 18) hx hb (by omega) (by omega) dX1_tokensIn_6 (by decide) (fun c6 => ?_) (fun c6 => ?_)
  · exact absurd c6 (by omega)
  · refine lv_aload_n hx hb dX1_tokensIn_9 rfl (lv_at hl 0 rfl) ?_
    refine x_get (ci := 1) hx hb hts hown hK rfl hw1 3 (by decide) hw0 hO rfl dX1_tokensIn_10 ?_
    refine lv_iload_n hx hb dX1_tokensIn_13 rfl (lv_at hl 1 rfl) ?_
    refine x_iald hx hb hK hC (by omega) (by decide) dX1_tokensIn_14 ?_
    refine x_rw (z := (nI ((T r).length))) (hc _ (by omega)) ?_
    refine lv_goto (tgt := 19) hx hb dX1_tokensIn_15 (by decide) ?_
    exact x_iret hx hb hr hlocks h0 hS (by omega) (by omega) dX1_tokensIn_19 (⟨rfl, rfl, trivial⟩)

abbrev RMX1_hasRow : Room := { frames := 2, cells := 0, slots := 0, locals := 33 }
set_option maxHeartbeats 4000000 in
set_option maxRecDepth 100000 in
theorem c_X1_hasRow (l : Launch) (G : gG) (v : Nat) (L : List Nat) (T : Tk) (r : Nat) (hr3 : r < 3) (H0 : Heap) (hV : VR G v L T H0) : XM l yX1_hasRow wsX1_hasRow RMX1_hasRow G [.ref v, .int (nI r)] H0 0 0 0 0 (roI H0 (bI (decide (0 < (T r).length))) True) xN := by
  refine x_ofW (cc := cX1_hasRow) (maxL := 2) (ret := (some .boolean)) (by decide) rfl (Nat.le_of_ble_eq_true rfl) ?_
  intro p e s m below meth c hx hb hr hml hown hts hlocks hout hin2 h0 hE ls hl
  replace hown : s.vm.findClass RX1 = some m.cls := hown
  have hK := hE.1
  have hS : va_S (gA 0 0 H0.size) H0 H0 [] := va_S.rf
  generalize hargs : ([.ref v, .int (nI r)] : List Value).toArray = args at hts ⊢
  have hl : lv_has ls 2 [(0, .ref v), (1, .int (nI r))] := hl
  refine lv_aload_n hx hb dX1_hasRow_0 rfl (lv_at hl 0 rfl) ?_
  refine lv_iload_n hx hb dX1_hasRow_1 rfl (lv_at hl 1 rfl) ?_
  refine x_goI_ro (x_runV (As := [.int (nI r)]) (rest := []) ⟨hx, hb, hml, hown, hts⟩ hE h0 hS (c_X1_tokensIn l G v L T r (by omega) H0 hV) (cwV 1 hts gX1_hasRow_X1_tokensIn rfl rfl rfl (by decide +kernel) ⟨Nat.le_of_ble_eq_true rfl, Nat.le_of_ble_eq_true rfl⟩) (hV.recv hK) (by omega) rfl rfl hl.1 rfl (lv_room (Nat.le_of_ble_eq_true rfl)) dX1_hasRow_2 ⟨by first | exact Nat.le_of_ble_eq_true rfl | omega, by first | exact Nat.le_of_ble_eq_true rfl | omega⟩) hS (by omega) (fun _ _ _ _ _ h => h.elim) (fun locs hq hS => ?_)
  have hl60 := hV.2.2.2.2 r (by omega)
  refine x_if_leN (tgt := 12) hx hb (by omega) dX1_hasRow_5 (by decide) (fun c5 => ?_) (fun c5 => ?_)
  · refine lv_iconst (v := nI 0) hx hb dX1_hasRow_12 (by decide) ?_
    exact x_zret hx hb hr hlocks h0 hS (by omega) (by omega) dX1_hasRow_13 (by first | rfl | exact bI_nar _) (⟨rfl, by rw [decide_eq_false (by omega)]; rfl, trivial⟩)
  · refine lv_iconst (v := nI 1) hx hb dX1_hasRow_8 (by decide) ?_
    refine lv_goto (tgt := 13) hx hb dX1_hasRow_9 (by decide) ?_
    exact x_zret hx hb hr hlocks h0 hS (by omega) (by omega) dX1_hasRow_13 (by first | rfl | exact bI_nar _) (⟨rfl, by rw [decide_eq_true c5]; rfl, trivial⟩)

abbrev RMX1_hasToken : Room := { frames := 1, cells := 0, slots := 0, locals := 12 }
set_option maxHeartbeats 4000000 in
set_option maxRecDepth 100000 in
theorem c_X1_hasToken (l : Launch) (G : gG) (v : Nat) (L : List Nat) (T : Tk) (r i : Nat) (hr3 : r < 3) (hi31 : i < 2147483648) (H0 : Heap) (hV : VR G v L T H0) : XM l yX1_hasToken wsX1_hasToken RMX1_hasToken G [.ref v, .int (nI r), .int (nI i)] H0 0 0 0 0 (roI H0 (bI (decide (i < (T r).length))) True) xN := by
  refine x_ofW (cc := cX1_hasToken) (maxL := 3) (ret := (some .boolean)) (by decide) rfl (Nat.le_of_ble_eq_true rfl) ?_
  intro p e s m below meth c hx hb hr hml hown hts hlocks hout hin2 h0 hE ls hl
  replace hown : s.vm.findClass RX1 = some m.cls := hown
  have hK := hE.1
  have hS : va_S (gA 0 0 H0.size) H0 H0 [] := va_S.rf
  generalize hargs : ([.ref v, .int (nI r), .int (nI i)] : List Value).toArray = args at hts ⊢
  have hw0 := hts (.fieldLink RX1 26 "Releaseledger$Version" "counts" "[I") (by decide +kernel)
  have hw1 : ∀ w ∈ u_ws RX1 TX1 4, w ∈ wsX1_hasToken := by decide +kernel
  have hl : lv_has ls 3 [(0, .ref v), (1, .int (nI r)), (2, .int (nI i))] := hl
  have hO := hV.1.1
  have hSt := hV.1.2.1
  have hSz := hV.1.2.2
  obtain ⟨fc, hC, hc⟩ := hV.2.2.1
  have h60 := hV.2.2.2.2
  have hl60 := h60 r hr3
  refine lv_iload_n hx hb dX1_hasToken_0 rfl (lv_at hl 1 rfl) ?_
  refine x_if_ltN (tgt := 27) hx hb (by omega) dX1_hasToken_1 (by decide) ?_
  refine lv_iload_n hx hb dX1_hasToken_4 rfl (lv_at hl 1 rfl) ?_
  refine lv_iconst (v := nI 3) hx hb dX1_hasToken_5 (by decide) ?_
  refine x_icmp_ge (tgt := 27) hx hb (by omega) (by omega) dX1_hasToken_6 (by decide) (fun c6 => ?_) (fun c6 => ?_)
  · exact absurd c6 (by omega)
  · refine lv_iload_n hx hb dX1_hasToken_9 rfl (lv_at hl 2 rfl) ?_
    refine x_if_ltN (tgt := 27) hx hb (by omega) dX1_hasToken_10 (by decide) ?_
    refine lv_iload_n hx hb dX1_hasToken_13 rfl (lv_at hl 2 rfl) ?_
    refine lv_aload_n hx hb dX1_hasToken_14 rfl (lv_at hl 0 rfl) ?_
    refine x_get (ci := 1) hx hb hts hown hK rfl hw1 3 (by decide) hw0 hO rfl dX1_hasToken_15 ?_
    refine lv_iload_n hx hb dX1_hasToken_18 rfl (lv_at hl 1 rfl) ?_
    refine x_iald hx hb hK hC (by omega) (by decide) dX1_hasToken_19 ?_
    refine x_rw (z := (nI ((T r).length))) (hc _ (by omega)) ?_
    refine x_icmp_ge (tgt := 27) hx hb (by omega) (by omega) dX1_hasToken_20 (by decide) (fun c20 => ?_) (fun c20 => ?_)
    · refine lv_iconst (v := nI 0) hx hb dX1_hasToken_27 (by decide) ?_
      exact x_zret hx hb hr hlocks h0 hS (by omega) (by omega) dX1_hasToken_28 (by first | rfl | exact bI_nar _) (⟨rfl, by rw [decide_eq_false (by omega)]; rfl, trivial⟩)
    · refine lv_iconst (v := nI 1) hx hb dX1_hasToken_23 (by decide) ?_
      refine lv_goto (tgt := 28) hx hb dX1_hasToken_24 (by decide) ?_
      exact x_zret hx hb hr hlocks h0 hS (by omega) (by omega) dX1_hasToken_28 (by first | rfl | exact bI_nar _) (⟨rfl, by rw [decide_eq_true c20]; rfl, trivial⟩)

abbrev RMX1_allTokens : Room := { frames := 1, cells := 0, slots := 0, locals := 12 }
set_option maxHeartbeats 4000000 in
set_option maxRecDepth 100000 in
theorem c_X1_allTokens (l : Launch) (G : gG) (v : Nat) (L : List Nat) (T : Tk) (H0 : Heap) (hV : VR G v L T H0) : XM l yX1_allTokens wsX1_allTokens RMX1_allTokens G [.ref v] H0 0 0 0 0 (roI H0 (nI (cntT T 3)) True) xN := by
  refine x_ofW (cc := cX1_allTokens) (maxL := 3) (ret := (some .int)) (by decide) rfl (Nat.le_of_ble_eq_true rfl) ?_
  intro p e s m below meth c hx hb hr hml hown hts hlocks hout hin2 h0 hE ls hl
  replace hown : s.vm.findClass RX1 = some m.cls := hown
  have hK := hE.1
  have hS : va_S (gA 0 0 H0.size) H0 H0 [] := va_S.rf
  generalize hargs : ([.ref v] : List Value).toArray = args at hts ⊢
  have hw0 := hts (.fieldLink RX1 26 "Releaseledger$Version" "counts" "[I") (by decide +kernel)
  have hw1 : ∀ w ∈ u_ws RX1 TX1 4, w ∈ wsX1_allTokens := by decide +kernel
  have hl : lv_has ls 3 [(0, .ref v)] := hl
  have hO := hV.1.1
  have hSt := hV.1.2.1
  have hSz := hV.1.2.2
  obtain ⟨fc, hC, hc⟩ := hV.2.2.1
  have h60 := hV.2.2.2.2
  refine lv_iconst (v := nI 0) hx hb dX1_allTokens_0 (by decide) ?_
  refine lv_istore_n (lv' := [(1, .int (nI 0)), (0, .ref v)]) hx hb dX1_allTokens_1 rfl hl (by decide) rfl (fun ls hl => ?_)
  refine lv_iconst (v := nI 0) hx hb dX1_allTokens_2 (by decide) ?_
  refine lv_istore_n (lv' := [(2, .int (nI 0)), (1, .int (nI 0)), (0, .ref v)]) hx hb dX1_allTokens_3 rfl hl (by decide) rfl (fun ls hl => ?_)
  have loop4 : ∀ (fu : Nat) (k i : Nat) (hk : k = cntT T i) (hi : i ≤ 3) (locs : List Loc) (hS : va_S (gA 0 0 H0.size) H0 H0 locs) (ls : Array Slot), 3 - i < fu → lv_has ls 3 [(2, .int (nI i)), (1, .int (nI k)), (0, .ref v)] → W p l e RMX1_allTokens s m args below meth c H0 locs 0 0 (XQ below args s H0 0 0 0 0 (roI H0 (nI (cntT T 3)) True) xN) (F0 m 4 ls []) := by
    intro fu4
    induction fu4 with
    | zero => intro k i hk hi locs hS  ls hmu; exact absurd hmu (Nat.not_lt_zero _)
    | succ fu4 ih4 =>
      intro k i hk hi locs hS  ls hmu4 hl
      refine lv_iload_n hx hb dX1_allTokens_4 rfl (lv_at hl 0 rfl) ?_
      refine lv_iconst (v := nI 3) hx hb dX1_allTokens_5 (by decide) ?_
      refine x_icmp_ge (tgt := 24) hx hb (by omega) (by omega) dX1_allTokens_6 (by decide) (fun c6 => ?_) (fun c6 => ?_)
      · refine lv_iload_n hx hb dX1_allTokens_24 rfl (lv_at hl 1 rfl) ?_
        exact x_iret hx hb hr hlocks h0 hS (by omega) (by omega) dX1_allTokens_25 (⟨rfl, by rw [hk, show i = 3 by omega], trivial⟩)
      · refine lv_iload_n hx hb dX1_allTokens_9 rfl (lv_at hl 1 rfl) ?_
        refine lv_aload_n hx hb dX1_allTokens_10 rfl (lv_at hl 2 rfl) ?_
        refine x_get (ci := 1) hx hb hts hown hK rfl hw1 3 (by decide) hw0 hO rfl dX1_allTokens_11 ?_
        refine lv_iload_n hx hb dX1_allTokens_14 rfl (lv_at hl 0 rfl) ?_
        refine x_iald hx hb hK hC (by omega) (by decide) dX1_allTokens_15 ?_
        refine x_rw (z := (nI ((T i).length))) (hc _ (by omega)) ?_
        refine lv_iadd hx hb dX1_allTokens_16 ?_
        refine x_rw (z := nI (k + ((T i).length))) (nI_add _ _) ?_
        refine lv_istore_n (lv' := [(1, .int (nI (k + ((T i).length)))), (2, .int (nI i)), (0, .ref v)]) hx hb dX1_allTokens_17 rfl hl (by decide) rfl (fun ls hl => ?_)
        refine lv_iinc (v := nI (i + 1)) (lv' := [(2, .int (nI (i + 1))), (1, .int (nI (k + ((T i).length)))), (0, .ref v)]) hx hb dX1_allTokens_18 hl (k := 1) rfl (nI_1 _) (by decide) rfl (fun ls hl => ?_)
        refine lv_goto (tgt := 4) hx hb dX1_allTokens_21 (by decide) ?_
        exact ih4 (k + ((T i).length)) (i + 1) (by rw [hk]; rfl) (by omega) _ hS ls (by omega) (lv_sub hl [0, 1, 2] rfl)
  exact loop4 _ 0 0 rfl (by omega) _ hS ls (Nat.lt_succ_self _) (lv_sub hl [0, 1, 2] rfl)

abbrev RMX1_sizeAt : Room := { frames := 2, cells := 0, slots := 0, locals := 34 }
set_option maxHeartbeats 4000000 in
set_option maxRecDepth 100000 in
theorem c_X1_sizeAt (l : Launch) (G : gG) (v : Nat) (L : List Nat) (T : Tk) (r i : Nat) (hr3 : r < 3) (hi31 : i < 2147483648) (H0 : Heap) (hV : VR G v L T H0) : XM l yX1_sizeAt wsX1_sizeAt RMX1_sizeAt G [.ref v, .int (nI r), .int (nI i)] H0 0 0 0 0 (roI H0 (tsz L T r i) True) xN := by
  refine x_ofW (cc := cX1_sizeAt) (maxL := 3) (ret := (some .int)) (by decide) rfl (Nat.le_of_ble_eq_true rfl) ?_
  intro p e s m below meth c hx hb hr hml hown hts hlocks hout hin2 h0 hE ls hl
  replace hown : s.vm.findClass RX1 = some m.cls := hown
  have hK := hE.1
  have hS : va_S (gA 0 0 H0.size) H0 H0 [] := va_S.rf
  generalize hargs : ([.ref v, .int (nI r), .int (nI i)] : List Value).toArray = args at hts ⊢
  have hw0 := hts (.fieldLink RX1 23 "Releaseledger$Version" "sizes" "[[I") (by decide +kernel)
  have hw1 : ∀ w ∈ u_ws RX1 TX1 4, w ∈ wsX1_sizeAt := by decide +kernel
  have hl : lv_has ls 3 [(0, .ref v), (1, .int (nI r)), (2, .int (nI i))] := hl
  have hO := hV.1.1
  have hSt := hV.1.2.1
  have hSz := hV.1.2.2
  obtain ⟨fc, hC, hc⟩ := hV.2.2.1
  have h60 := hV.2.2.2.2
  obtain ⟨fs, fz, hRs, hRz, hrz⟩ := hV.cell (r := r) (by omega)
  refine lv_aload_n hx hb dX1_sizeAt_0 rfl (lv_at hl 0 rfl) ?_
  refine lv_iload_n hx hb dX1_sizeAt_1 rfl (lv_at hl 1 rfl) ?_
  refine lv_iload_n hx hb dX1_sizeAt_2 rfl (lv_at hl 2 rfl) ?_
  refine x_goI_ro (x_runV (As := [.int (nI r), .int (nI i)]) (rest := []) ⟨hx, hb, hml, hown, hts⟩ hE h0 hS (c_X1_hasToken l G v L T r i (by omega) (by omega) H0 hV) (cwV 2 hts gX1_sizeAt_X1_hasToken rfl rfl rfl (by decide +kernel) ⟨Nat.le_of_ble_eq_true rfl, Nat.le_of_ble_eq_true rfl⟩) (hV.recv hK) (by omega) rfl rfl hl.1 rfl (lv_room (Nat.le_of_ble_eq_true rfl)) dX1_sizeAt_3 ⟨by first | exact Nat.le_of_ble_eq_true rfl | omega, by first | exact Nat.le_of_ble_eq_true rfl | omega⟩) hS (by omega) (fun _ _ _ _ _ h => h.elim) (fun locs hq hS => ?_)
  refine x_if_eqB (tgt := 20) hx hb dX1_sizeAt_6 (by decide) (fun c6 => ?_) (fun c6 => ?_)
  · have hin := of_decide_eq_false c6
    refine lv_iconst (v := nI 0) hx hb dX1_sizeAt_20 (by decide) ?_
    exact x_iret hx hb hr hlocks h0 hS (by omega) (by omega) dX1_sizeAt_21 (⟨rfl, (tsz_out hin).symm, trivial⟩)
  · have hin := of_decide_eq_true c6
    have hl60 := h60 r hr3
    refine lv_aload_n hx hb dX1_sizeAt_9 rfl (lv_at hl 0 rfl) ?_
    refine x_get (ci := 1) hx hb hts hown hK rfl hw1 2 (by decide) hw0 hO rfl dX1_sizeAt_10 ?_
    refine lv_iload_n hx hb dX1_sizeAt_13 rfl (lv_at hl 1 rfl) ?_
    refine x_aald (k := 3) (v := (v + 8 + r)) hx hb hK (by decide) rfl hSz (by omega) (by decide) (rw3_at (by omega)) dX1_sizeAt_14 ?_
    refine lv_iload_n hx hb dX1_sizeAt_15 rfl (lv_at hl 2 rfl) ?_
    refine x_iald hx hb hK hRz (by omega) (by decide) dX1_sizeAt_16 ?_
    refine x_rw (z := (szI L (tg (T r) i))) (hrz _ (by omega)).2 ?_
    refine lv_goto (tgt := 21) hx hb dX1_sizeAt_17 (by decide) ?_
    exact x_iret hx hb hr hlocks h0 hS (by omega) (by omega) dX1_sizeAt_21 (⟨rfl, (tsz_in hin).symm, trivial⟩)

abbrev RMX1_startAt : Room := { frames := 2, cells := 0, slots := 0, locals := 34 }
set_option maxHeartbeats 4000000 in
set_option maxRecDepth 100000 in
theorem c_X1_startAt (l : Launch) (G : gG) (v : Nat) (L : List Nat) (T : Tk) (r i : Nat) (hr3 : r < 3) (hi31 : i < 2147483648) (H0 : Heap) (hV : VR G v L T H0) : XM l yX1_startAt wsX1_startAt RMX1_startAt G [.ref v, .int (nI r), .int (nI i)] H0 0 0 0 0 (roI H0 (nI (tst T r i)) True) xN := by
  refine x_ofW (cc := cX1_startAt) (maxL := 3) (ret := (some .int)) (by decide) rfl (Nat.le_of_ble_eq_true rfl) ?_
  intro p e s m below meth c hx hb hr hml hown hts hlocks hout hin2 h0 hE ls hl
  replace hown : s.vm.findClass RX1 = some m.cls := hown
  have hK := hE.1
  have hS : va_S (gA 0 0 H0.size) H0 H0 [] := va_S.rf
  generalize hargs : ([.ref v, .int (nI r), .int (nI i)] : List Value).toArray = args at hts ⊢
  have hw0 := hts (.fieldLink RX1 20 "Releaseledger$Version" "starts" "[[I") (by decide +kernel)
  have hw1 : ∀ w ∈ u_ws RX1 TX1 4, w ∈ wsX1_startAt := by decide +kernel
  have hl : lv_has ls 3 [(0, .ref v), (1, .int (nI r)), (2, .int (nI i))] := hl
  have hO := hV.1.1
  have hSt := hV.1.2.1
  have hSz := hV.1.2.2
  obtain ⟨fc, hC, hc⟩ := hV.2.2.1
  have h60 := hV.2.2.2.2
  obtain ⟨fs, fz, hRs, hRz, hrz⟩ := hV.cell (r := r) (by omega)
  refine lv_aload_n hx hb dX1_startAt_0 rfl (lv_at hl 0 rfl) ?_
  refine lv_iload_n hx hb dX1_startAt_1 rfl (lv_at hl 1 rfl) ?_
  refine lv_iload_n hx hb dX1_startAt_2 rfl (lv_at hl 2 rfl) ?_
  refine x_goI_ro (x_runV (As := [.int (nI r), .int (nI i)]) (rest := []) ⟨hx, hb, hml, hown, hts⟩ hE h0 hS (c_X1_hasToken l G v L T r i (by omega) (by omega) H0 hV) (cwV 2 hts gX1_startAt_X1_hasToken rfl rfl rfl (by decide +kernel) ⟨Nat.le_of_ble_eq_true rfl, Nat.le_of_ble_eq_true rfl⟩) (hV.recv hK) (by omega) rfl rfl hl.1 rfl (lv_room (Nat.le_of_ble_eq_true rfl)) dX1_startAt_3 ⟨by first | exact Nat.le_of_ble_eq_true rfl | omega, by first | exact Nat.le_of_ble_eq_true rfl | omega⟩) hS (by omega) (fun _ _ _ _ _ h => h.elim) (fun locs hq hS => ?_)
  refine x_if_eqB (tgt := 20) hx hb dX1_startAt_6 (by decide) (fun c6 => ?_) (fun c6 => ?_)
  · have hin := of_decide_eq_false c6
    refine lv_iconst (v := nI 0) hx hb dX1_startAt_20 (by decide) ?_
    exact x_iret hx hb hr hlocks h0 hS (by omega) (by omega) dX1_startAt_21 (⟨rfl, by rw [tst_out hin], trivial⟩)
  · have hin := of_decide_eq_true c6
    have hl60 := h60 r hr3
    refine lv_aload_n hx hb dX1_startAt_9 rfl (lv_at hl 0 rfl) ?_
    refine x_get (ci := 1) hx hb hts hown hK rfl hw1 1 (by decide) hw0 hO rfl dX1_startAt_10 ?_
    refine lv_iload_n hx hb dX1_startAt_13 rfl (lv_at hl 1 rfl) ?_
    refine x_aald (k := 3) (v := (v + 4 + r)) hx hb hK (by decide) rfl hSt (by omega) (by decide) (rw3_at (by omega)) dX1_startAt_14 ?_
    refine lv_iload_n hx hb dX1_startAt_15 rfl (lv_at hl 2 rfl) ?_
    refine x_iald hx hb hK hRs (by omega) (by decide) dX1_startAt_16 ?_
    refine x_rw (z := (nI ((tg (T r) i).1))) (hrz _ (by omega)).1 ?_
    refine lv_goto (tgt := 21) hx hb dX1_startAt_17 (by decide) ?_
    exact x_iret hx hb hr hlocks h0 hS (by omega) (by omega) dX1_startAt_21 (⟨rfl, by rw [tst_in hin], trivial⟩)

abbrev RMX1_words : Room := { frames := 1, cells := 0, slots := 0, locals := 12 }
set_option maxHeartbeats 4000000 in
set_option maxRecDepth 100000 in
theorem c_X1_words (l : Launch) (G : gG) (v : Nat) (L : List Nat) (T : Tk) (hJ : Jt L T) (H0 : Heap) (hV : VR G v L T H0) : XM l yX1_words wsX1_words RMX1_words G [.ref v] H0 0 0 0 0 (roI H0 (nI (wct L T 3)) True) xN := by
  refine x_ofW (cc := cX1_words) (maxL := 4) (ret := (some .int)) (by decide) rfl (Nat.le_of_ble_eq_true rfl) ?_
  intro p e s m below meth c hx hb hr hml hown hts hlocks hout hin2 h0 hE ls hl
  replace hown : s.vm.findClass RX1 = some m.cls := hown
  have hK := hE.1
  have hS : va_S (gA 0 0 H0.size) H0 H0 [] := va_S.rf
  generalize hargs : ([.ref v] : List Value).toArray = args at hts ⊢
  have hw0 := hts (.fieldLink RX1 26 "Releaseledger$Version" "counts" "[I") (by decide +kernel)
  have hw1 : ∀ w ∈ u_ws RX1 TX1 4, w ∈ wsX1_words := by decide +kernel
  have hw2 := hts (.fieldLink RX1 23 "Releaseledger$Version" "sizes" "[[I") (by decide +kernel)
  have hl : lv_has ls 4 [(0, .ref v)] := hl
  have hO := hV.1.1
  have hSt := hV.1.2.1
  have hSz := hV.1.2.2
  obtain ⟨fc, hC, hc⟩ := hV.2.2.1
  have h60 := hV.2.2.2.2
  refine lv_iconst (v := nI 0) hx hb dX1_words_0 (by decide) ?_
  refine lv_istore_n (lv' := [(1, .int (nI 0)), (0, .ref v)]) hx hb dX1_words_1 rfl hl (by decide) rfl (fun ls hl => ?_)
  refine lv_iconst (v := nI 0) hx hb dX1_words_2 (by decide) ?_
  refine lv_istore_n (lv' := [(2, .int (nI 0)), (1, .int (nI 0)), (0, .ref v)]) hx hb dX1_words_3 rfl hl (by decide) rfl (fun ls hl => ?_)
  have loop4 : ∀ (fu : Nat) (k r : Nat) (hk : k = wct L T r) (hr3 : r ≤ 3) (locs : List Loc) (hS : va_S (gA 0 0 H0.size) H0 H0 locs) (ls : Array Slot), 3 - r < fu → lv_has ls 4 [(2, .int (nI r)), (1, .int (nI k)), (0, .ref v)] → W p l e RMX1_words s m args below meth c H0 locs 0 0 (XQ below args s H0 0 0 0 0 (roI H0 (nI (wct L T 3)) True) xN) (F0 m 4 ls []) := by
    intro fu4
    induction fu4 with
    | zero => intro k r hk hr3 locs hS  ls hmu; exact absurd hmu (Nat.not_lt_zero _)
    | succ fu4 ih4 =>
      intro k r hk hr3 locs hS  ls hmu4 hl
      refine lv_iload_n hx hb dX1_words_4 rfl (lv_at hl 0 rfl) ?_
      refine lv_iconst (v := nI 3) hx hb dX1_words_5 (by decide) ?_
      refine x_icmp_ge (tgt := 47) hx hb (by omega) (by omega) dX1_words_6 (by decide) (fun c6 => ?_) (fun c6 => ?_)
      · refine lv_iload_n hx hb dX1_words_47 rfl (lv_at hl 1 rfl) ?_
        exact x_iret hx hb hr hlocks h0 hS (by omega) (by omega) dX1_words_48 (⟨rfl, by rw [hk, show r = 3 by omega], trivial⟩)
      · obtain ⟨fs, fz, hRs, hRz, hrz⟩ := hV.cell (r := r) (by omega)
        have hl60 := h60 r (by omega)
        refine lv_iconst (v := nI 0) hx hb dX1_words_9 (by decide) ?_
        refine lv_istore_n (lv' := [(3, .int (nI 0)), (2, .int (nI r)), (1, .int (nI k)), (0, .ref v)]) hx hb dX1_words_10 rfl hl (by decide) rfl (fun ls hl => ?_)
        have loop11 : ∀ (fu : Nat) (k2 i : Nat) (hk2 : k2 = wct L T r + wcr L (T r) i) (hi : i ≤ (T r).length) (locs : List Loc) (hS : va_S (gA 0 0 H0.size) H0 H0 locs) (ls : Array Slot), (T r).length - i < fu → lv_has ls 4 [(3, .int (nI i)), (2, .int (nI r)), (1, .int (nI k2)), (0, .ref v)] → W p l e RMX1_words s m args below meth c H0 locs 0 0 (XQ below args s H0 0 0 0 0 (roI H0 (nI (wct L T 3)) True) xN) (F0 m 11 ls []) := by
          intro fu11
          induction fu11 with
          | zero => intro k2 i hk2 hi locs hS  ls hmu; exact absurd hmu (Nat.not_lt_zero _)
          | succ fu11 ih11 =>
            intro k2 i hk2 hi locs hS  ls hmu11 hl
            refine lv_iload_n hx hb dX1_words_11 rfl (lv_at hl 0 rfl) ?_
            refine lv_aload_n hx hb dX1_words_12 rfl (lv_at hl 3 rfl) ?_
            refine x_get (ci := 1) hx hb hts hown hK rfl hw1 3 (by decide) hw0 hO rfl dX1_words_13 ?_
            refine lv_iload_n hx hb dX1_words_16 rfl (lv_at hl 1 rfl) ?_
            refine x_iald hx hb hK hC (by omega) (by decide) dX1_words_17 ?_
            refine x_rw (z := (nI ((T r).length))) (hc _ (by omega)) ?_
            refine x_icmp_ge (tgt := 41) hx hb (by omega) (by omega) dX1_words_18 (by decide) (fun c18 => ?_) (fun c18 => ?_)
            · refine lv_iinc (v := nI (r + 1)) (lv' := [(2, .int (nI (r + 1))), (3, .int (nI i)), (1, .int (nI k2)), (0, .ref v)]) hx hb dX1_words_41 hl (k := 1) rfl (nI_1 _) (by decide) rfl (fun ls hl => ?_)
              refine lv_goto (tgt := 4) hx hb dX1_words_44 (by decide) ?_
              exact ih4 k2 (r + 1) (by rw [hk2]; show _ = wct L T r + wcr L (T r) (T r).length; rw [show i = (T r).length by omega]) (by omega) _ hS ls (by omega) (lv_sub hl [0, 2, 3] rfl)
            · refine lv_aload_n hx hb dX1_words_21 rfl (lv_at hl 3 rfl) ?_
              refine x_get (ci := 1) hx hb hts hown hK rfl hw1 2 (by decide) hw2 hO rfl dX1_words_22 ?_
              refine lv_iload_n hx hb dX1_words_25 rfl (lv_at hl 1 rfl) ?_
              refine x_aald (k := 3) (v := (v + 8 + r)) hx hb hK (by decide) rfl hSz (by omega) (by decide) (rw3_at (by omega)) dX1_words_26 ?_
              refine lv_iload_n hx hb dX1_words_27 rfl (lv_at hl 0 rfl) ?_
              refine x_iald hx hb hK hRz (by omega) (by decide) dX1_words_28 ?_
              refine x_rw (z := (szI L (tg (T r) i))) (hrz _ (by omega)).2 ?_
              refine lv_if_ge (tgt := 35) hx hb dX1_words_29 (by decide) (fun c29 => ?_) (fun c29 => ?_)
              · have hk3 : k2 = wct L T r + wcr L (T r) (i + 1) := by
                  rw [hk2]
                  show _ = wct L T r + (wcr L (T r) i + _)
                  rw [if_pos (Decidable.byContradiction (fun g => absurd ((hJ.neg (by omega) (by omega)).mpr g) (Int32.not_lt.mpr c29)))]
                  omega
                refine lv_iinc (v := nI (i + 1)) (lv' := [(3, .int (nI (i + 1))), (2, .int (nI r)), (1, .int (nI k2)), (0, .ref v)]) hx hb dX1_words_35 hl (k := 0) rfl (nI_1 _) (by decide) rfl (fun ls hl => ?_)
                refine lv_goto (tgt := 11) hx hb dX1_words_38 (by decide) ?_
                exact ih11 k2 (i + 1) hk3 (by omega) _ hS ls (by omega) (lv_sub hl [0, 1, 2, 3] rfl)
              · have hk3 : k2 + 1 = wct L T r + wcr L (T r) (i + 1) := by
                  rw [hk2]
                  show _ = wct L T r + (wcr L (T r) i + _)
                  rw [if_neg ((hJ.neg (by omega) (by omega)).mp (Int32.not_le.mp c29))]
                  omega
                refine lv_iinc (v := nI (k2 + 1)) (lv' := [(1, .int (nI (k2 + 1))), (3, .int (nI i)), (2, .int (nI r)), (0, .ref v)]) hx hb dX1_words_32 hl (k := 2) rfl (nI_1 _) (by decide) rfl (fun ls hl => ?_)
                refine lv_iinc (v := nI (i + 1)) (lv' := [(3, .int (nI (i + 1))), (1, .int (nI (k2 + 1))), (2, .int (nI r)), (0, .ref v)]) hx hb dX1_words_35 hl (k := 1) rfl (nI_1 _) (by decide) rfl (fun ls hl => ?_)
                refine lv_goto (tgt := 11) hx hb dX1_words_38 (by decide) ?_
                exact ih11 (k2 + 1) (i + 1) hk3 (by omega) _ hS ls (by omega) (lv_sub hl [0, 2, 1, 3] rfl)
        exact loop11 _ k 0 (by rw [hk]; rfl) (by omega) _ hS ls (Nat.lt_succ_self _) (lv_sub hl [0, 1, 2, 3] rfl)
  exact loop4 _ 0 0 rfl (by omega) _ hS ls (Nat.lt_succ_self _) (lv_sub hl [0, 1, 2] rfl)

abbrev RMX1_openToken : Room := { frames := 2, cells := 0, slots := 0, locals := 33 }
set_option maxHeartbeats 4000000 in
set_option maxRecDepth 100000 in
/-- a new token of no sign -/
theorem c_X1_openToken (l : Launch) (G : gG) (v : Nat) (L : List Nat) (T : Tk) (r k q : Nat) (hr3 : r < 3) (hk : k = kd (cg L q)) (hk0 : k ≠ 0) (hq : q < 2147483648) (hlen : (T r).length < 60) (H0 : Heap) (hV : VR G v L T H0) : XM l yX1_openToken wsX1_openToken RMX1_openToken G [.ref v, .int (nI r), .int (nI k), .int (nI q)] H0 v (v + 12) 0 0 (qV (fun H1 => VR G v L (addT T r (q, q)) H1)) xN := by
  refine x_ofW (cc := cX1_openToken) (maxL := 5) (ret := none) (by decide) rfl (Nat.le_of_ble_eq_true rfl) ?_
  intro p e s m below meth c hx hb hr hml hown hts hlocks hout hin2 h0 hE ls hl
  replace hown : s.vm.findClass RX1 = some m.cls := hown
  have hK := hE.1
  have hS : va_S (gA v (v + 12) H0.size) H0 H0 [] := va_S.rf
  generalize hargs : ([.ref v, .int (nI r), .int (nI k), .int (nI q)] : List Value).toArray = args at hts ⊢
  have hw0 := hts (.fieldLink RX1 20 "Releaseledger$Version" "starts" "[[I") (by decide +kernel)
  have hw1 : ∀ w ∈ u_ws RX1 TX1 4, w ∈ wsX1_openToken := by decide +kernel
  have hw2 := hts (.fieldLink RX1 23 "Releaseledger$Version" "sizes" "[[I") (by decide +kernel)
  have hw3 := hts (.fieldLink RX1 26 "Releaseledger$Version" "counts" "[I") (by decide +kernel)
  have hl : lv_has ls 5 [(0, .ref v), (1, .int (nI r)), (2, .int (nI k)), (3, .int (nI q))] := hl
  have hO := hV.1.1
  have hSt := hV.1.2.1
  have hSz := hV.1.2.2
  obtain ⟨fc, hC, hc⟩ := hV.2.2.1
  have h60 := hV.2.2.2.2
  obtain ⟨fs, fz, hRs, hRz, hrz⟩ := hV.cell (r := r) (by omega)
  have hkl := kd_lt (cg L q)
  refine lv_aload_n hx hb dX1_openToken_0 rfl (lv_at hl 0 rfl) ?_
  refine lv_iload_n hx hb dX1_openToken_1 rfl (lv_at hl 1 rfl) ?_
  refine x_goI_ro (x_runV (As := [.int (nI r)]) (rest := []) ⟨hx, hb, hml, hown, hts⟩ hE h0 hS (c_X1_tokensIn l G v L T r (by omega) H0 hV) (cwV 1 hts gX1_openToken_X1_tokensIn rfl rfl rfl (by decide +kernel) ⟨Nat.le_of_ble_eq_true rfl, Nat.le_of_ble_eq_true rfl⟩) (hV.recv hK) (by omega) rfl rfl hl.1 rfl (lv_room (Nat.le_of_ble_eq_true rfl)) dX1_openToken_2 ⟨by first | exact Nat.le_of_ble_eq_true rfl | omega, by first | exact Nat.le_of_ble_eq_true rfl | omega⟩) hS (by omega) (fun _ _ _ _ _ h => h.elim) (fun locs hq hS => ?_)
  have hl60 := hV.2.2.2.2 r (by omega)
  refine lv_istore (lv' := [(4, .int (nI ((T r).length))), (0, .ref v), (1, .int (nI r)), (2, .int (nI k)), (3, .int (nI q))]) hx hb dX1_openToken_5 hl (by decide) rfl (fun ls hl => ?_)
  refine lv_iload_n hx hb dX1_openToken_7 rfl (lv_at hl 2 rfl) ?_
  refine x_if_ltN (tgt := 62) hx hb (by omega) dX1_openToken_8 (by decide) ?_
  refine lv_iload_n hx hb dX1_openToken_11 rfl (lv_at hl 2 rfl) ?_
  refine lv_iconst (v := nI 3) hx hb dX1_openToken_12 (by decide) ?_
  refine x_icmp_ge (tgt := 62) hx hb (by omega) (by omega) dX1_openToken_13 (by decide) (fun c13 => ?_) (fun c13 => ?_)
  · exact absurd c13 (by omega)
  · refine lv_iload hx hb dX1_openToken_16 (lv_at hl 0 rfl) ?_
    refine lv_bipush (v := nI 60) hx hb dX1_openToken_18 (by decide) ?_
    refine x_icmp_ge (tgt := 62) hx hb (by omega) (by omega) dX1_openToken_20 (by decide) (fun c20 => ?_) (fun c20 => ?_)
    · exact absurd c20 (by omega)
    · refine lv_aload_n hx hb dX1_openToken_23 rfl (lv_at hl 1 rfl) ?_
      refine x_get (ci := 1) hx hb hts hown hK rfl hw1 1 (by decide) hw0 hO rfl dX1_openToken_24 ?_
      refine lv_iload_n hx hb dX1_openToken_27 rfl (lv_at hl 2 rfl) ?_
      refine x_aald (k := 3) (v := (v + 4 + r)) hx hb hK (by decide) rfl hSt (by omega) (by decide) (rw3_at (by omega)) dX1_openToken_28 ?_
      refine lv_iload hx hb dX1_openToken_29 (lv_at hl 0 rfl) ?_
      refine lv_iload_n hx hb dX1_openToken_31 rfl (lv_at hl 4 rfl) ?_
      refine x_iast hx hb hK hRs (by omega) (by decide) hS (by unfold gA; omega) dX1_openToken_32 (fun H2 locs hRs hF hz hS => ?_)
      have hO := hO.fr hF (by omega)
      have hSt := hSt.fr hF (by omega)
      have hSz := hSz.fr hF (by omega)
      have hC := hC.fr hF (by omega)
      have hRz := hRz.fr hF (by omega)
      have hF1 := hF
      refine lv_aload_n hx hb dX1_openToken_33 rfl (lv_at hl 1 rfl) ?_
      refine x_get (ci := 1) hx hb hts hown hK rfl hw1 2 (by decide) hw2 hO rfl dX1_openToken_34 ?_
      refine lv_iload_n hx hb dX1_openToken_37 rfl (lv_at hl 2 rfl) ?_
      refine x_aald (k := 3) (v := (v + 8 + r)) hx hb hK (by decide) rfl hSz (by omega) (by decide) (rw3_at (by omega)) dX1_openToken_38 ?_
      refine lv_iload hx hb dX1_openToken_39 (lv_at hl 0 rfl) ?_
      refine lv_iload_n hx hb dX1_openToken_41 rfl (lv_at hl 3 rfl) ?_
      refine lv_iconst (v := nI 1) hx hb dX1_openToken_42 (by decide) ?_
      refine x_icmp_ne (tgt := 50) hx hb (by omega) (by omega) dX1_openToken_43 (by decide) (fun c43 => ?_) (fun c43 => ?_)
      · refine lv_iconst (v := (-1)) hx hb dX1_openToken_50 (by decide) ?_
        refine x_rw (z := szI L (q, q)) (by rw [szI_w (show kd (cg L q) ≠ 1 by omega), Nat.sub_self]; rfl) ?_
        refine x_iast hx hb hK hRz (by omega) (by decide) hS (by unfold gA; omega) dX1_openToken_51 (fun H3 locs hRz hF hz hS => ?_)
        have hO := hO.fr hF (by omega)
        have hSt := hSt.fr hF (by omega)
        have hSz := hSz.fr hF (by omega)
        have hC := hC.fr hF (by omega)
        have hRs := hRs.fr hF (by omega)
        have hF2 := hF
        refine lv_aload_n hx hb dX1_openToken_52 rfl (lv_at hl 1 rfl) ?_
        refine x_get (ci := 1) hx hb hts hown hK rfl hw1 3 (by decide) hw3 hO rfl dX1_openToken_53 ?_
        refine lv_iload_n hx hb dX1_openToken_56 rfl (lv_at hl 2 rfl) ?_
        refine lv_dup2_11 hx hb dX1_openToken_57 rfl rfl ?_
        refine x_iald hx hb hK hC (by omega) (by decide) dX1_openToken_58 ?_
        refine x_rw (z := (nI ((T r).length))) (hc _ (by omega)) ?_
        refine lv_iconst (v := nI 1) hx hb dX1_openToken_59 (by decide) ?_
        refine lv_iadd hx hb dX1_openToken_60 ?_
        refine x_rw (z := nI (((T r).length) + 1)) (nI_add _ _) ?_
        refine x_iast hx hb hK hC (by omega) (by decide) hS (by unfold gA; omega) dX1_openToken_61 (fun H4 locs hC hF hz hS => ?_)
        have hO := hO.fr hF (by omega)
        have hSt := hSt.fr hF (by omega)
        have hSz := hSz.fr hF (by omega)
        have hRs := hRs.fr hF (by omega)
        have hRz := hRz.fr hF (by omega)
        have hF3 := hF
        exact x_vret hx hb hr hlocks h0 hS (by omega) (by omega) dX1_openToken_62 (VR.add hV hr3 hlen hF1 hF2 hF3 hrz hc hRs hRz hC)
      · refine lv_iconst (v := nI 0) hx hb dX1_openToken_46 (by decide) ?_
        refine lv_goto (tgt := 51) hx hb dX1_openToken_47 (by decide) ?_
        refine x_rw (z := szI L (q, q)) (by rw [szI_d (show kd (cg L q) = 1 by omega), Nat.sub_self]; rfl) ?_
        refine x_iast hx hb hK hRz (by omega) (by decide) hS (by unfold gA; omega) dX1_openToken_51 (fun H5 locs hRz hF hz hS => ?_)
        have hO := hO.fr hF (by omega)
        have hSt := hSt.fr hF (by omega)
        have hSz := hSz.fr hF (by omega)
        have hC := hC.fr hF (by omega)
        have hRs := hRs.fr hF (by omega)
        have hF2 := hF
        refine lv_aload_n hx hb dX1_openToken_52 rfl (lv_at hl 1 rfl) ?_
        refine x_get (ci := 1) hx hb hts hown hK rfl hw1 3 (by decide) hw3 hO rfl dX1_openToken_53 ?_
        refine lv_iload_n hx hb dX1_openToken_56 rfl (lv_at hl 2 rfl) ?_
        refine lv_dup2_11 hx hb dX1_openToken_57 rfl rfl ?_
        refine x_iald hx hb hK hC (by omega) (by decide) dX1_openToken_58 ?_
        refine x_rw (z := (nI ((T r).length))) (hc _ (by omega)) ?_
        refine lv_iconst (v := nI 1) hx hb dX1_openToken_59 (by decide) ?_
        refine lv_iadd hx hb dX1_openToken_60 ?_
        refine x_rw (z := nI (((T r).length) + 1)) (nI_add _ _) ?_
        refine x_iast hx hb hK hC (by omega) (by decide) hS (by unfold gA; omega) dX1_openToken_61 (fun H6 locs hC hF hz hS => ?_)
        have hO := hO.fr hF (by omega)
        have hSt := hSt.fr hF (by omega)
        have hSz := hSz.fr hF (by omega)
        have hRs := hRs.fr hF (by omega)
        have hRz := hRz.fr hF (by omega)
        have hF3 := hF
        exact x_vret hx hb hr hlocks h0 hS (by omega) (by omega) dX1_openToken_62 (VR.add hV hr3 hlen hF1 hF2 hF3 hrz hc hRs hRz hC)

abbrev RMX1_growToken : Room := { frames := 2, cells := 0, slots := 0, locals := 34 }
set_option maxHeartbeats 4000000 in
set_option maxRecDepth 100000 in
/-- the last token of a row goes on -/
theorem c_X1_growToken (l : Launch) (G : gG) (v : Nat) (L : List Nat) (T : Tk) (r k ch q : Nat) (hr3 : r < 3) (hpos : 0 < (T r).length) (hk : k = kd (cg L q)) (hk0 : k ≠ 0) (hks : k = kd (cg L (tg (T r) ((T r).length - 1)).1)) (hch : ch = cg L q) (hch2 : ch < 65536) (he : (tg (T r) ((T r).length - 1)).2 = q) (hse : (tg (T r) ((T r).length - 1)).1 ≤ q) (H0 : Heap) (hV : VR G v L T H0) : XM l yX1_growToken wsX1_growToken RMX1_growToken G [.ref v, .int (nI r), .int (nI k), .int (nI ch)] H0 v (v + 12) 0 0 (qV (fun H1 => VR G v L (growT T r (q + 1)) H1)) xN := by
  refine x_ofW (cc := cX1_growToken) (maxL := 6) (ret := none) (by decide) rfl (Nat.le_of_ble_eq_true rfl) ?_
  intro p e s m below meth c hx hb hr hml hown hts hlocks hout hin2 h0 hE ls hl
  replace hown : s.vm.findClass RX1 = some m.cls := hown
  have hK := hE.1
  have hS : va_S (gA v (v + 12) H0.size) H0 H0 [] := va_S.rf
  generalize hargs : ([.ref v, .int (nI r), .int (nI k), .int (nI ch)] : List Value).toArray = args at hts ⊢
  have hw0 := hts (.fieldLink RX1 23 "Releaseledger$Version" "sizes" "[[I") (by decide +kernel)
  have hw1 : ∀ w ∈ u_ws RX1 TX1 4, w ∈ wsX1_growToken := by decide +kernel
  have hl : lv_has ls 6 [(0, .ref v), (1, .int (nI r)), (2, .int (nI k)), (3, .int (nI ch))] := hl
  have hO := hV.1.1
  have hSt := hV.1.2.1
  have hSz := hV.1.2.2
  obtain ⟨fc, hC, hc⟩ := hV.2.2.1
  have h60 := hV.2.2.2.2
  obtain ⟨fs, fz, hRs, hRz, hrz⟩ := hV.cell (r := r) (by omega)
  have hl60 := h60 r hr3
  have hkl := kd_lt (cg L q)
  refine lv_aload_n hx hb dX1_growToken_0 rfl (lv_at hl 0 rfl) ?_
  refine lv_iload_n hx hb dX1_growToken_1 rfl (lv_at hl 1 rfl) ?_
  refine x_goI_ro (x_runV (As := [.int (nI r)]) (rest := []) ⟨hx, hb, hml, hown, hts⟩ hE h0 hS (c_X1_tokensIn l G v L T r (by omega) H0 hV) (cwV 1 hts gX1_growToken_X1_tokensIn rfl rfl rfl (by decide +kernel) ⟨Nat.le_of_ble_eq_true rfl, Nat.le_of_ble_eq_true rfl⟩) (hV.recv hK) (by omega) rfl rfl hl.1 rfl (lv_room (Nat.le_of_ble_eq_true rfl)) dX1_growToken_2 ⟨by first | exact Nat.le_of_ble_eq_true rfl | omega, by first | exact Nat.le_of_ble_eq_true rfl | omega⟩) hS (by omega) (fun _ _ _ _ _ h => h.elim) (fun locs hq hS => ?_)
  have hl60 := hV.2.2.2.2 r (by omega)
  refine lv_iconst (v := nI 1) hx hb dX1_growToken_5 (by decide) ?_
  refine lv_isub hx hb dX1_growToken_6 ?_
  refine x_rw (z := nI (((T r).length) - 1)) (pk_sub (by omega)) ?_
  refine lv_istore (lv' := [(4, .int (nI (((T r).length) - 1))), (0, .ref v), (1, .int (nI r)), (2, .int (nI k)), (3, .int (nI ch))]) hx hb dX1_growToken_7 hl (by decide) rfl (fun ls hl => ?_)
  refine lv_aload_n hx hb dX1_growToken_9 rfl (lv_at hl 1 rfl) ?_
  refine lv_iload_n hx hb dX1_growToken_10 rfl (lv_at hl 2 rfl) ?_
  refine lv_iload hx hb dX1_growToken_11 (lv_at hl 0 rfl) ?_
  refine x_goI_ro (x_runV (As := [.int (nI r), .int (nI (((T r).length) - 1))]) (rest := []) ⟨hx, hb, hml, hown, hts⟩ hE h0 hS (c_X1_hasToken l G v L T r ((T r).length - 1) (by omega) (by omega) H0 hV) (cwV 2 hts gX1_growToken_X1_hasToken rfl rfl rfl (by decide +kernel) ⟨Nat.le_of_ble_eq_true rfl, Nat.le_of_ble_eq_true rfl⟩) (hV.recv hK) (by omega) rfl rfl hl.1 rfl (lv_room (Nat.le_of_ble_eq_true rfl)) dX1_growToken_13 ⟨by first | exact Nat.le_of_ble_eq_true rfl | omega, by first | exact Nat.le_of_ble_eq_true rfl | omega⟩) hS (by omega) (fun _ _ _ _ _ h => h.elim) (fun locs hq hS => ?_)
  refine x_if_eqB (tgt := 61) hx hb dX1_growToken_16 (by decide) (fun c16 => ?_) (fun c16 => ?_)
  · exact absurd (of_decide_eq_false c16) (by omega)
  · refine lv_aload_n hx hb dX1_growToken_19 rfl (lv_at hl 1 rfl) ?_
    refine x_get (ci := 1) hx hb hts hown hK rfl hw1 2 (by decide) hw0 hO rfl dX1_growToken_20 ?_
    refine lv_iload_n hx hb dX1_growToken_23 rfl (lv_at hl 2 rfl) ?_
    refine x_aald (k := 3) (v := (v + 8 + r)) hx hb hK (by decide) rfl hSz (by omega) (by decide) (rw3_at (by omega)) dX1_growToken_24 ?_
    refine lv_iload hx hb dX1_growToken_25 (lv_at hl 0 rfl) ?_
    refine x_iald hx hb hK hRz (by omega) (by decide) dX1_growToken_27 ?_
    refine x_rw (z := (szI L (tg (T r) (((T r).length) - 1)))) (hrz _ (by omega)).2 ?_
    refine lv_istore (lv' := [(5, .int (szI L (tg (T r) (((T r).length) - 1)))), (4, .int (nI (((T r).length) - 1))), (0, .ref v), (1, .int (nI r)), (2, .int (nI k)), (3, .int (nI ch))]) hx hb dX1_growToken_28 hl (by decide) rfl (fun ls hl => ?_)
    refine lv_aload_n hx hb dX1_growToken_30 rfl (lv_at hl 2 rfl) ?_
    refine x_get (ci := 1) hx hb hts hown hK rfl hw1 2 (by decide) hw0 hO rfl dX1_growToken_31 ?_
    refine lv_iload_n hx hb dX1_growToken_34 rfl (lv_at hl 3 rfl) ?_
    refine x_aald (k := 3) (v := (v + 8 + r)) hx hb hK (by decide) rfl hSz (by omega) (by decide) (rw3_at (by omega)) dX1_growToken_35 ?_
    refine lv_iload hx hb dX1_growToken_36 (lv_at hl 1 rfl) ?_
    refine lv_iload_n hx hb dX1_growToken_38 rfl (lv_at hl 4 rfl) ?_
    refine lv_iconst (v := nI 1) hx hb dX1_growToken_39 (by decide) ?_
    refine x_icmp_ne (tgt := 56) hx hb (by omega) (by omega) dX1_growToken_40 (by decide) (fun c40 => ?_) (fun c40 => ?_)
    · have hkd : kd (cg L (tg (T r) ((T r).length - 1)).1) ≠ 1 := by omega
      refine lv_iload hx hb dX1_growToken_56 (lv_at hl 0 rfl) ?_
      refine lv_iconst (v := nI 1) hx hb dX1_growToken_58 (by decide) ?_
      refine lv_isub hx hb dX1_growToken_59 ?_
      refine x_rw (z := (szI L ((tg (T r) ((T r).length - 1)).1, q + 1))) (by rw [szI_w hkd, szI_w (show kd (cg L ((tg (T r) ((T r).length - 1)).1, q + 1).1) ≠ 1 from hkd), he, wI_succ]; exact congrArg wI (by show q - _ + 1 = q + 1 - _; omega)) ?_
      refine x_iast hx hb hK hRz (by omega) (by decide) hS (by unfold gA; omega) dX1_growToken_60 (fun H3 locs hRz hF hz hS => ?_)
      have hO := hO.fr hF (by omega)
      have hSt := hSt.fr hF (by omega)
      have hSz := hSz.fr hF (by omega)
      have hC := hC.fr hF (by omega)
      have hRs := hRs.fr hF (by omega)
      exact x_vret hx hb hr hlocks h0 hS (by omega) (by omega) dX1_growToken_61 (VR.grow hV hr3 hpos hF (fun i hi => (hrz i hi).2) hRz)
    · have hkd : kd (cg L (tg (T r) ((T r).length - 1)).1) = 1 := by omega
      have hd48 : 48 ≤ ch := by rw [hch]; exact kd_48 (by omega)
      refine lv_bipush (v := nI 10) hx hb dX1_growToken_43 (by decide) ?_
      refine lv_iload hx hb dX1_growToken_45 (lv_at hl 0 rfl) ?_
      refine lv_imul hx hb dX1_growToken_47 ?_
      refine x_rw (z := (nI (10 * nv L (tg (T r) ((T r).length - 1)).1 (q - (tg (T r) ((T r).length - 1)).1)))) (by rw [szI_d hkd, he]; exact pk_mul _ _) ?_
      refine lv_iload_n hx hb dX1_growToken_48 rfl (lv_at hl 5 rfl) ?_
      refine lv_bipush (v := nI 48) hx hb dX1_growToken_49 (by decide) ?_
      refine lv_isub hx hb dX1_growToken_51 ?_
      refine x_rw (z := nI (ch - 48)) (pk_sub (by omega)) ?_
      refine lv_iadd hx hb dX1_growToken_52 ?_
      refine x_rw (z := (szI L ((tg (T r) ((T r).length - 1)).1, q + 1))) (by rw [nI_add, szI_d (show kd (cg L ((tg (T r) ((T r).length - 1)).1, q + 1).1) = 1 from hkd)]; exact congrArg nI (nv_grow hse hch)) ?_
      refine lv_goto (tgt := 60) hx hb dX1_growToken_53 (by decide) ?_
      refine x_iast hx hb hK hRz (by omega) (by decide) hS (by unfold gA; omega) dX1_growToken_60 (fun H4 locs hRz hF hz hS => ?_)
      have hO := hO.fr hF (by omega)
      have hSt := hSt.fr hF (by omega)
      have hSz := hSz.fr hF (by omega)
      have hC := hC.fr hF (by omega)
      have hRs := hRs.fr hF (by omega)
      exact x_vret hx hb hr hlocks h0 hS (by omega) (by omega) dX1_growToken_61 (VR.grow hV hr3 hpos hF (fun i hi => (hrz i hi).2) hRz)

abbrev RMX1_readTokens : Room := { frames := 3, cells := 0, slots := 0, locals := 59 }
set_option maxHeartbeats 4000000 in
set_option maxRecDepth 100000 in
/-- the tokens of the text -/
theorem c_X1_readTokens (l : Launch) (G : gG) (v : Nat) (L : List Nat) (H0 : Heap) (hV : Vo G v L H0) : XM l yX1_readTokens wsX1_readTokens RMX1_readTokens G [.ref v] H0 v (v + 12) 0 0 (qV (fun H1 => VR G v L (tk L) H1)) xN := by
  refine x_ofW (cc := cX1_readTokens) (maxL := 6) (ret := none) (by decide) rfl (Nat.le_of_ble_eq_true rfl) ?_
  intro p e s m below meth c hx hb hr hml hown hts hlocks hout hin2 h0 hE ls hl
  replace hown : s.vm.findClass RX1 = some m.cls := hown
  have hK := hE.1
  have hS : va_S (gA v (v + 12) H0.size) H0 H0 [] := va_S.rf
  generalize hargs : ([.ref v] : List Value).toArray = args at hts ⊢
  have hw0 := hts (.fieldLink RX1 12 "Releaseledger$Version" "told" "LReleaseledger$Text;") (by decide +kernel)
  have hw1 : ∀ w ∈ u_ws RX1 TX1 4, w ∈ wsX1_readTokens := by decide +kernel
  have hw2 := hts (.fieldLink RX1 26 "Releaseledger$Version" "counts" "[I") (by decide +kernel)
  have hl : lv_has ls 6 [(0, .ref v)] := hl
  replace hV := hV.z
  refine lv_iconst (v := nI 0) hx hb dX1_readTokens_0 (by decide) ?_
  refine lv_istore_n (lv' := [(1, .int (nI 0)), (0, .ref v)]) hx hb dX1_readTokens_1 rfl hl (by decide) rfl (fun ls hl => ?_)
  have loop2 : ∀ (fu : Nat) (i : Nat) (hi : i ≤ 3) (H : Heap) (locs : List Loc) (hS : va_S (gA v (v + 12) H0.size) H0 H locs) (hV : Vz G v L i H) (ls : Array Slot), 3 - i < fu → lv_has ls 6 [(1, .int (nI i)), (0, .ref v)] → W p l e RMX1_readTokens s m args below meth c H locs 0 0 (XQ below args s H0 v (v + 12) 0 0 (qV (fun H1 => VR G v L (tk L) H1)) xN) (F0 m 2 ls []) := by
    intro fu2
    induction fu2 with
    | zero => intro i hi H locs hS hV ls hmu; exact absurd hmu (Nat.not_lt_zero _)
    | succ fu2 ih2 =>
      intro i hi H locs hS hV ls hmu2 hl
      refine lv_iload_n hx hb dX1_readTokens_2 rfl (lv_at hl 0 rfl) ?_
      refine lv_iconst (v := nI 3) hx hb dX1_readTokens_3 (by decide) ?_
      refine x_icmp_ge (tgt := 20) hx hb (by omega) (by omega) dX1_readTokens_4 (by decide) (fun c4 => ?_) (fun c4 => ?_)
      · replace hV : VR G v L (pf L 0).2.2 H := hV.done (by omega)
        refine lv_iconst (v := nI 0) hx hb dX1_readTokens_20 (by decide) ?_
        refine lv_istore_n (lv' := [(1, .int (nI 0)), (0, .ref v)]) hx hb dX1_readTokens_21 rfl hl (by decide) rfl (fun ls hl => ?_)
        refine lv_iconst (v := nI 0) hx hb dX1_readTokens_22 (by decide) ?_
        refine lv_istore_n (lv' := [(2, .int (nI 0)), (1, .int (nI 0)), (0, .ref v)]) hx hb dX1_readTokens_23 rfl hl (by decide) rfl (fun ls hl => ?_)
        refine lv_iconst (v := nI 0) hx hb dX1_readTokens_24 (by decide) ?_
        refine lv_istore_n (lv' := [(3, .int (nI 0)), (2, .int (nI 0)), (1, .int (nI 0)), (0, .ref v)]) hx hb dX1_readTokens_25 rfl hl (by decide) rfl (fun ls hl => ?_)
        have loop26 : ∀ (fu : Nat) (q : Nat) (hq : q ≤ L.length) (H : Heap) (locs : List Loc) (hS : va_S (gA v (v + 12) H0.size) H0 H locs) (hV : VR G v L (pf L q).2.2 H) (ls : Array Slot), L.length - q < fu → lv_has ls 6 [(3, .int (nI q)), (2, .int (nI ((pf L q).2.1))), (1, .int (nI ((pf L q).1))), (0, .ref v)] → W p l e RMX1_readTokens s m args below meth c H locs 0 0 (XQ below args s H0 v (v + 12) 0 0 (qV (fun H1 => VR G v L (tk L) H1)) xN) (F0 m 26 ls []) := by
          intro fu26
          induction fu26 with
          | zero => intro q hq H locs hS hV ls hmu; exact absurd hmu (Nat.not_lt_zero _)
          | succ fu26 ih26 =>
            intro q hq H locs hS hV ls hmu26 hl
            obtain ⟨hp1, hp2, hp3, hp4, hp5⟩ := pf_inv L q
            have hT := hV.2.1
            have hTn := hT.le
            have hO := hV.1.1
            refine lv_iload_n hx hb dX1_readTokens_26 rfl (lv_at hl 0 rfl) ?_
            refine lv_aload_n hx hb dX1_readTokens_27 rfl (lv_at hl 3 rfl) ?_
            refine x_get (ci := 1) hx hb hts hown hK rfl hw1 0 (by decide) hw0 hO rfl dX1_readTokens_28 ?_
            refine x_goI_ro (x_runV (As := []) (rest := [.int (nI q)]) ⟨hx, hb, hml, hown, hts⟩ hE h0 hS (c_X0_length l G (v + 1) L H hT) (cwV 0 hts gX1_readTokens_X0_length rfl rfl rfl (by decide +kernel) ⟨Nat.le_of_ble_eq_true rfl, Nat.le_of_ble_eq_true rfl⟩) (hT.recv hK) (by omega) rfl rfl hl.1 rfl (lv_room (Nat.le_of_ble_eq_true rfl)) dX1_readTokens_31 ⟨by first | exact Nat.le_of_ble_eq_true rfl | omega, by first | exact Nat.le_of_ble_eq_true rfl | omega⟩) hS (by omega) (fun _ _ _ _ _ h => h.elim) (fun locs hq hS => ?_)
            refine x_icmp_ge (tgt := 101) hx hb (by omega) (by omega) dX1_readTokens_34 (by decide) (fun c34 => ?_) (fun c34 => ?_)
            · exact x_vret hx hb hr hlocks h0 hS (by omega) (by omega) dX1_readTokens_101 (by unfold tk; rw [show L.length = q by omega]; exact hV)
            · refine lv_aload_n hx hb dX1_readTokens_37 rfl (lv_at hl 3 rfl) ?_
              refine x_get (ci := 1) hx hb hts hown hK rfl hw1 0 (by decide) hw0 hO rfl dX1_readTokens_38 ?_
              refine lv_iload_n hx hb dX1_readTokens_41 rfl (lv_at hl 0 rfl) ?_
              refine x_goI_ro (x_runV (As := [.int (nI q)]) (rest := []) ⟨hx, hb, hml, hown, hts⟩ hE h0 hS (c_X0_signAt l G (v + 1) L q (by omega) H hT) (cwV 1 hts gX1_readTokens_X0_signAt rfl rfl rfl (by decide +kernel) ⟨Nat.le_of_ble_eq_true rfl, Nat.le_of_ble_eq_true rfl⟩) (hT.recv hK) (by omega) rfl rfl hl.1 rfl (lv_room (Nat.le_of_ble_eq_true rfl)) dX1_readTokens_42 ⟨by first | exact Nat.le_of_ble_eq_true rfl | omega, by first | exact Nat.le_of_ble_eq_true rfl | omega⟩) hS (by omega) (fun _ _ _ _ _ h => h.elim) (fun locs hq hS => ?_)
              have hcl := hT.cg_lt (i := q) (by omega)
              have hkl := kd_lt (cg L q)
              refine lv_istore (lv' := [(4, .int (nI (cg L q))), (3, .int (nI q)), (2, .int (nI ((pf L q).2.1))), (1, .int (nI ((pf L q).1))), (0, .ref v)]) hx hb dX1_readTokens_45 hl (by decide) rfl (fun ls hl => ?_)
              refine lv_iload hx hb dX1_readTokens_47 (lv_at hl 0 rfl) ?_
              refine x_goI_ro (x_runSN (As := [.int (nI (cg L q))]) (rest := []) ⟨hx, hb, hml, hown, hts⟩ hE h0 hS (c_X2_kindOf l G (cg L q) hcl H) ⟨(va_cnB (host := RX2) 1 hts ggX1_readTokens_X2_kindOf rfl rfl rfl (x_nest hE (by decide +kernel)) (hts (.initialized RX2) (by decide +kernel)) (by decide +kernel) ⟨Nat.le_of_ble_eq_true rfl, Nat.le_of_ble_eq_true rfl⟩), hts (.static yX2_kindOf) (by decide +kernel), trivial⟩ (by omega) rfl rfl hl.1 rfl (lv_room (Nat.le_of_ble_eq_true rfl)) dX1_readTokens_49 ⟨by first | exact Nat.le_of_ble_eq_true rfl | omega, by first | exact Nat.le_of_ble_eq_true rfl | omega⟩) hS (by omega) (fun _ _ _ _ _ h => h.elim) (fun locs hq hS => ?_)
              refine lv_istore (lv' := [(5, .int (nI (kd (cg L q)))), (4, .int (nI (cg L q))), (3, .int (nI q)), (2, .int (nI ((pf L q).2.1))), (1, .int (nI ((pf L q).1))), (0, .ref v)]) hx hb dX1_readTokens_52 hl (by decide) rfl (fun ls hl => ?_)
              refine lv_iload hx hb dX1_readTokens_54 (lv_at hl 0 rfl) ?_
              refine x_if_neN (tgt := 69) hx hb (by omega) dX1_readTokens_56 (by decide) (fun c56 => ?_) (fun c56 => ?_)
              · refine lv_iload hx hb dX1_readTokens_69 (lv_at hl 0 rfl) ?_
                refine lv_iload_n hx hb dX1_readTokens_71 rfl (lv_at hl 3 rfl) ?_
                refine x_icmp_eq (tgt := 83) hx hb (by omega) (by omega) dX1_readTokens_72 (by decide) (fun c72 => ?_) (fun c72 => ?_)
                · refine lv_aload_n hx hb dX1_readTokens_83 rfl (lv_at hl 5 rfl) ?_
                  refine lv_iload_n hx hb dX1_readTokens_84 rfl (lv_at hl 4 rfl) ?_
                  refine lv_iload hx hb dX1_readTokens_85 (lv_at hl 0 rfl) ?_
                  refine lv_iload hx hb dX1_readTokens_87 (lv_at hl 1 rfl) ?_
                  refine x_goV (x_runV (As := [.int (nI ((pf L q).1)), .int (nI (kd (cg L q))), .int (nI (cg L q))]) (rest := []) ⟨hx, hb, hml, hown, hts⟩ hE h0 hS (c_X1_growToken l G v L (pf L q).2.2 (pf L q).1 (kd (cg L q)) (cg L q) q hp1 (hp3 (by omega)).1 rfl (by omega) (by rw [(hp3 (by omega)).2.2]; exact c72) rfl hcl (hp3 (by omega)).2.1 (by have := hp4 (pf L q).1 (((pf L q).2.2 (pf L q).1).length - 1) (by have := (hp3 (by omega)).1; omega); have := (hp3 (by omega)).2.1; omega) H hV) (cwV 3 hts gX1_readTokens_X1_growToken rfl rfl rfl (by decide +kernel) ⟨Nat.le_of_ble_eq_true rfl, Nat.le_of_ble_eq_true rfl⟩) (hV.recv hK) (by omega) rfl rfl hl.1 rfl (lv_room (Nat.le_of_ble_eq_true rfl)) dX1_readTokens_89 ⟨by first | exact Nat.le_of_ble_eq_true rfl | omega, by first | exact Nat.le_of_ble_eq_true rfl | omega⟩) hS (by omega) (fun _ _ _ _ _ h => h.elim) (fun  H4 locs hq hF hS => ?_)
                  replace hV : VR G v L (growT (pf L q).2.2 (pf L q).1 (q + 1)) H4 := hq
                  refine lv_iload hx hb dX1_readTokens_92 (lv_at hl 0 rfl) ?_
                  refine lv_istore_n (lv' := [(2, .int (nI (kd (cg L q)))), (5, .int (nI (kd (cg L q)))), (4, .int (nI (cg L q))), (3, .int (nI q)), (1, .int (nI ((pf L q).1))), (0, .ref v)]) hx hb dX1_readTokens_94 rfl hl (by decide) rfl (fun ls hl => ?_)
                  refine lv_iinc (v := nI (q + 1)) (lv' := [(3, .int (nI (q + 1))), (2, .int (nI (kd (cg L q)))), (5, .int (nI (kd (cg L q)))), (4, .int (nI (cg L q))), (1, .int (nI ((pf L q).1))), (0, .ref v)]) hx hb dX1_readTokens_95 hl (k := 3) rfl (nI_1 _) (by decide) rfl (fun ls hl => ?_)
                  refine lv_goto (tgt := 26) hx hb dX1_readTokens_98 (by decide) ?_
                  have hps : pf L (q + 1) = pstep L q (pf L q) := rfl
                  rw [show pstep L q (pf L q) = _ from pstep_old (by omega) (by omega)] at hps
                  have hps1 := congrArg Prod.fst hps
                  have hps2 := congrArg (fun z : PS => z.2.1) hps
                  have hps3 := congrArg (fun z : PS => z.2.2) hps
                  dsimp only at hps1 hps2 hps3
                  rw [← hps3] at hV
                  rw [show (nI (kd (cg L q))) = nI (pf L (q + 1)).2.1 from congrArg nI hps2.symm, ← hps1] at hl
                  exact ih26 (q + 1) (by omega) H4 _ hS hV ls (by omega) (lv_sub hl [0, 1, 4, 5] rfl)
                · refine lv_aload_n hx hb dX1_readTokens_75 rfl (lv_at hl 5 rfl) ?_
                  refine lv_iload_n hx hb dX1_readTokens_76 rfl (lv_at hl 4 rfl) ?_
                  refine lv_iload hx hb dX1_readTokens_77 (lv_at hl 0 rfl) ?_
                  refine lv_iload_n hx hb dX1_readTokens_79 rfl (lv_at hl 2 rfl) ?_
                  refine x_goV (x_runV (As := [.int (nI ((pf L q).1)), .int (nI (kd (cg L q))), .int (nI q)]) (rest := []) ⟨hx, hb, hml, hown, hts⟩ hE h0 hS (c_X1_openToken l G v L (pf L q).2.2 (pf L q).1 (kd (cg L q)) q hp1 rfl (by omega) (by omega) (by have := hp2 (pf L q).1; omega) H hV) (cwV 3 hts gX1_readTokens_X1_openToken rfl rfl rfl (by decide +kernel) ⟨Nat.le_of_ble_eq_true rfl, Nat.le_of_ble_eq_true rfl⟩) (hV.recv hK) (by omega) rfl rfl hl.1 rfl (lv_room (Nat.le_of_ble_eq_true rfl)) dX1_readTokens_80 ⟨by first | exact Nat.le_of_ble_eq_true rfl | omega, by first | exact Nat.le_of_ble_eq_true rfl | omega⟩) hS (by omega) (fun _ _ _ _ _ h => h.elim) (fun  H5 locs hq hF hS => ?_)
                  replace hV : VR G v L (addT (pf L q).2.2 (pf L q).1 (q, q)) H5 := hq
                  refine lv_aload_n hx hb dX1_readTokens_83 rfl (lv_at hl 5 rfl) ?_
                  refine lv_iload_n hx hb dX1_readTokens_84 rfl (lv_at hl 4 rfl) ?_
                  refine lv_iload hx hb dX1_readTokens_85 (lv_at hl 0 rfl) ?_
                  refine lv_iload hx hb dX1_readTokens_87 (lv_at hl 1 rfl) ?_
                  refine x_goV (x_runV (As := [.int (nI ((pf L q).1)), .int (nI (kd (cg L q))), .int (nI (cg L q))]) (rest := []) ⟨hx, hb, hml, hown, hts⟩ hE h0 hS (c_X1_growToken l G v L (addT (pf L q).2.2 (pf L q).1 (q, q)) (pf L q).1 (kd (cg L q)) (cg L q) q hp1 (by rw [addT_self]; simp) rfl (by omega) (by rw [last_add]) rfl hcl (by rw [last_add]) (by rw [last_add]; exact Nat.le_refl _) H5 hV) (cwV 3 hts gX1_readTokens_X1_growToken rfl rfl rfl (by decide +kernel) ⟨Nat.le_of_ble_eq_true rfl, Nat.le_of_ble_eq_true rfl⟩) (hV.recv hK) (by omega) rfl rfl hl.1 rfl (lv_room (Nat.le_of_ble_eq_true rfl)) dX1_readTokens_89 ⟨by first | exact Nat.le_of_ble_eq_true rfl | omega, by first | exact Nat.le_of_ble_eq_true rfl | omega⟩) hS (by omega) (fun _ _ _ _ _ h => h.elim) (fun  H6 locs hq hF hS => ?_)
                  replace hV : VR G v L (growT (addT (pf L q).2.2 (pf L q).1 (q, q)) (pf L q).1 (q + 1)) H6 := hq
                  refine lv_iload hx hb dX1_readTokens_92 (lv_at hl 0 rfl) ?_
                  refine lv_istore_n (lv' := [(2, .int (nI (kd (cg L q)))), (5, .int (nI (kd (cg L q)))), (4, .int (nI (cg L q))), (3, .int (nI q)), (1, .int (nI ((pf L q).1))), (0, .ref v)]) hx hb dX1_readTokens_94 rfl hl (by decide) rfl (fun ls hl => ?_)
                  refine lv_iinc (v := nI (q + 1)) (lv' := [(3, .int (nI (q + 1))), (2, .int (nI (kd (cg L q)))), (5, .int (nI (kd (cg L q)))), (4, .int (nI (cg L q))), (1, .int (nI ((pf L q).1))), (0, .ref v)]) hx hb dX1_readTokens_95 hl (k := 3) rfl (nI_1 _) (by decide) rfl (fun ls hl => ?_)
                  refine lv_goto (tgt := 26) hx hb dX1_readTokens_98 (by decide) ?_
                  have hps : pf L (q + 1) = pstep L q (pf L q) := rfl
                  rw [show pstep L q (pf L q) = _ from pstep_new (by omega) (by omega)] at hps
                  have hps1 := congrArg Prod.fst hps
                  have hps2 := congrArg (fun z : PS => z.2.1) hps
                  have hps3 := congrArg (fun z : PS => z.2.2) hps
                  dsimp only at hps1 hps2 hps3
                  rw [← hps3] at hV
                  rw [show (nI (kd (cg L q))) = nI (pf L (q + 1)).2.1 from congrArg nI hps2.symm, ← hps1] at hl
                  exact ih26 (q + 1) (by omega) H6 _ hS hV ls (by omega) (lv_sub hl [0, 1, 4, 5] rfl)
              · refine lv_iload_n hx hb dX1_readTokens_59 rfl (lv_at hl 4 rfl) ?_
                refine lv_iload hx hb dX1_readTokens_60 (lv_at hl 1 rfl) ?_
                refine x_goI_ro (x_runS (As := [.int (nI ((pf L q).1)), .int (nI (cg L q))]) (rest := []) ⟨hx, hb, hml, hown, hts⟩ hE h0 hS (c_X1_rowBehind l G (pf L q).1 (cg L q) hp1 hcl H) (va_cwS 2 hts gX1_readTokens_X1_rowBehind rfl rfl rfl (by decide +kernel) ⟨Nat.le_of_ble_eq_true rfl, Nat.le_of_ble_eq_true rfl⟩) (by omega) rfl rfl hl.1 rfl (lv_room (Nat.le_of_ble_eq_true rfl)) dX1_readTokens_62 ⟨by first | exact Nat.le_of_ble_eq_true rfl | omega, by first | exact Nat.le_of_ble_eq_true rfl | omega⟩) hS (by omega) (fun _ _ _ _ _ h => h.elim) (fun locs hq hS => ?_)
                refine lv_istore_n (lv' := [(1, .int (nI (rowB (pf L q).1 (cg L q)))), (5, .int (nI (kd (cg L q)))), (4, .int (nI (cg L q))), (3, .int (nI q)), (2, .int (nI ((pf L q).2.1))), (0, .ref v)]) hx hb dX1_readTokens_65 rfl hl (by decide) rfl (fun ls hl => ?_)
                refine lv_goto (tgt := 92) hx hb dX1_readTokens_66 (by decide) ?_
                refine lv_iload hx hb dX1_readTokens_92 (lv_at hl 1 rfl) ?_
                refine lv_istore_n (lv' := [(2, .int (nI (kd (cg L q)))), (1, .int (nI (rowB (pf L q).1 (cg L q)))), (5, .int (nI (kd (cg L q)))), (4, .int (nI (cg L q))), (3, .int (nI q)), (0, .ref v)]) hx hb dX1_readTokens_94 rfl hl (by decide) rfl (fun ls hl => ?_)
                refine lv_iinc (v := nI (q + 1)) (lv' := [(3, .int (nI (q + 1))), (2, .int (nI (kd (cg L q)))), (1, .int (nI (rowB (pf L q).1 (cg L q)))), (5, .int (nI (kd (cg L q)))), (4, .int (nI (cg L q))), (0, .ref v)]) hx hb dX1_readTokens_95 hl (k := 4) rfl (nI_1 _) (by decide) rfl (fun ls hl => ?_)
                refine lv_goto (tgt := 26) hx hb dX1_readTokens_98 (by decide) ?_
                have hps : pf L (q + 1) = pstep L q (pf L q) := rfl
                rw [show pstep L q (pf L q) = _ from pstep_joint (by omega)] at hps
                have hps1 := congrArg Prod.fst hps
                have hps2 := congrArg (fun z : PS => z.2.1) hps
                have hps3 := congrArg (fun z : PS => z.2.2) hps
                dsimp only at hps1 hps2 hps3
                rw [← hps3] at hV
                rw [← hps1, show (nI (kd (cg L q))) = nI (pf L (q + 1)).2.1 from congrArg nI ((show kd (cg L q) = 0 by omega).trans hps2.symm)] at hl
                exact ih26 (q + 1) (by omega) H _ hS hV ls (by omega) (lv_sub hl [0, 1, 2, 5] rfl)
        exact loop26 _ 0 (by omega) H _ hS hV ls (Nat.lt_succ_self _) (lv_sub hl [0, 1, 2, 3] rfl)
      · have hO := hV.1.1
        obtain ⟨fc, hC, hc⟩ := hV.2.2.1
        refine lv_aload_n hx hb dX1_readTokens_7 rfl (lv_at hl 1 rfl) ?_
        refine x_get (ci := 1) hx hb hts hown hK rfl hw1 3 (by decide) hw2 hO rfl dX1_readTokens_8 ?_
        refine lv_iload_n hx hb dX1_readTokens_11 rfl (lv_at hl 0 rfl) ?_
        refine lv_iconst (v := nI 0) hx hb dX1_readTokens_12 (by decide) ?_
        refine x_iast hx hb hK hC (by omega) (by decide) hS (by unfold gA; omega) dX1_readTokens_13 (fun H8 locs hC hF hz hS => ?_)
        have hO := hO.fr hF (by omega)
        refine lv_iinc (v := nI (i + 1)) (lv' := [(1, .int (nI (i + 1))), (0, .ref v)]) hx hb dX1_readTokens_14 hl (k := 0) rfl (nI_1 _) (by decide) rfl (fun ls hl => ?_)
        refine lv_goto (tgt := 2) hx hb dX1_readTokens_17 (by decide) ?_
        replace hV : Vz G v L (i + 1) H8 := hV.step hF hc hC
        exact ih2 (i + 1) (by omega) H8 _ hS hV ls (by omega) (lv_sub hl [0, 1] rfl)
  exact loop2 _ 0 (by omega) H0 _ hS hV ls (Nat.lt_succ_self _) (lv_sub hl [0, 1] rfl)

abbrev RMX1_tell : Room := { frames := 3, cells := 0, slots := 0, locals := 55 }
set_option maxHeartbeats 4000000 in
set_option maxRecDepth 100000 in
/-- another text, not yet read -/
theorem c_X1_tell (l : Launch) (G : gG) (v o : Nat) (L P : List Nat) (hd : v + 12 ≤ o ∨ o + 2 ≤ v) (H0 : Heap) (hV : Vo G v L H0) (hT : Tx G o P H0) : XM l yX1_tell wsX1_tell RMX1_tell G [.ref v, .ref o] H0 v (v + 12) 0 0 (qV (fun H1 => Vo G v P H1)) xN := by
  refine x_ofW (cc := cX1_tell) (maxL := 2) (ret := none) (by decide) rfl (Nat.le_of_ble_eq_true rfl) ?_
  intro p e s m below meth c hx hb hr hml hown hts hlocks hout hin2 h0 hE ls hl
  replace hown : s.vm.findClass RX1 = some m.cls := hown
  have hK := hE.1
  have hS : va_S (gA v (v + 12) H0.size) H0 H0 [] := va_S.rf
  generalize hargs : ([.ref v, .ref o] : List Value).toArray = args at hts ⊢
  have hw0 := hts (.fieldLink RX1 12 "Releaseledger$Version" "told" "LReleaseledger$Text;") (by decide +kernel)
  have hw1 : ∀ w ∈ u_ws RX1 TX1 4, w ∈ wsX1_tell := by decide +kernel
  have hl : lv_has ls 2 [(0, .ref v), (1, .ref o)] := hl
  have hO := hV.1.1
  have hM := hV.2.1
  have hTn := hT.le
  refine lv_aload_n hx hb dX1_tell_0 rfl (lv_at hl 0 rfl) ?_
  refine x_get (ci := 1) hx hb hts hown hK rfl hw1 0 (by decide) hw0 hO rfl dX1_tell_1 ?_
  refine x_goV (x_runV (As := []) (rest := []) ⟨hx, hb, hml, hown, hts⟩ hE h0 hS (c_X0_clear l G (v + 1) L H0 hM) (cwV 0 hts gX1_tell_X0_clear rfl rfl rfl (by decide +kernel) ⟨Nat.le_of_ble_eq_true rfl, Nat.le_of_ble_eq_true rfl⟩) (hM.recv hK) (by omega) rfl rfl hl.1 rfl (lv_room (Nat.le_of_ble_eq_true rfl)) dX1_tell_4 ⟨by first | exact Nat.le_of_ble_eq_true rfl | omega, by first | exact Nat.le_of_ble_eq_true rfl | omega⟩) hS (by omega) (fun _ _ _ _ _ h => h.elim) (fun  H1 locs hq hF hS => ?_)
  have hO := hO.fr hF (by omega)
  have hT := hT.fr hF (by omega)
  have hV := hV.setT hF hq
  have hM := hq
  refine lv_aload_n hx hb dX1_tell_7 rfl (lv_at hl 0 rfl) ?_
  refine x_get (ci := 1) hx hb hts hown hK rfl hw1 0 (by decide) hw0 hO rfl dX1_tell_8 ?_
  refine lv_aload_n hx hb dX1_tell_11 rfl (lv_at hl 1 rfl) ?_
  refine x_goV (x_runV (As := [.ref o]) (rest := []) ⟨hx, hb, hml, hown, hts⟩ hE h0 hS (c_X0_putAll l G (v + 1) o [] P (by omega) (by simp; omega) H1 hM hT) (cwV 1 hts gX1_tell_X0_putAll rfl rfl rfl (by decide +kernel) ⟨Nat.le_of_ble_eq_true rfl, Nat.le_of_ble_eq_true rfl⟩) (hM.recv hK) (by omega) rfl rfl hl.1 rfl (lv_room (Nat.le_of_ble_eq_true rfl)) dX1_tell_12 ⟨by first | exact Nat.le_of_ble_eq_true rfl | omega, by first | exact Nat.le_of_ble_eq_true rfl | omega⟩) hS (by omega) (fun _ _ _ _ _ h => h.elim) (fun  H2 locs hq hF hS => ?_)
  have hO := hO.fr hF (by omega)
  have hT := hT.fr hF (by omega)
  have hV := hV.setT hF hq
  exact x_vret hx hb hr hlocks h0 hS (by omega) (by omega) dX1_tell_15 (hV)

abbrev RMX1_orderOfSizes : Room := { frames := 2, cells := 0, slots := 0, locals := 33 }
set_option maxHeartbeats 4000000 in
set_option maxRecDepth 100000 in
theorem c_X1_orderOfSizes (l : Launch) (G : gG) (x y : Int32) (H0 : Heap)  : XM l yX1_orderOfSizes wsX1_orderOfSizes RMX1_orderOfSizes G [.int x, .int y] H0 0 0 0 0 (roI H0 (oS x y) True) xN := by
  refine x_ofW (cc := cX1_orderOfSizes) (maxL := 2) (ret := (some .int)) (by decide) rfl (Nat.le_of_ble_eq_true rfl) ?_
  intro p e s m below meth c hx hb hr hml hown hts hlocks hout hin2 h0 hE ls hl
  replace hown : s.vm.findClass RX1 = some m.cls := hown
  have hK := hE.1
  have hS : va_S (gA 0 0 H0.size) H0 H0 [] := va_S.rf
  generalize hargs : ([.int x, .int y] : List Value).toArray = args at hts ⊢
  have hl : lv_has ls 2 [(0, .int x), (1, .int y)] := hl
  refine lv_iload_n hx hb dX1_orderOfSizes_0 rfl (lv_at hl 0 rfl) ?_
  refine lv_if_ge (tgt := 6) hx hb dX1_orderOfSizes_1 (by decide) (fun c1 => ?_) (fun c1 => ?_)
  · refine lv_iload_n hx hb dX1_orderOfSizes_6 rfl (lv_at hl 1 rfl) ?_
    refine lv_if_ge (tgt := 14) hx hb dX1_orderOfSizes_7 (by decide) (fun c7 => ?_) (fun c7 => ?_)
    · refine lv_iload_n hx hb dX1_orderOfSizes_14 rfl (lv_at hl 0 rfl) ?_
      refine lv_iload_n hx hb dX1_orderOfSizes_15 rfl (lv_at hl 1 rfl) ?_
      refine x_goI_ro (x_runSN (As := [.int x, .int y]) (rest := []) ⟨hx, hb, hml, hown, hts⟩ hE h0 hS (c_X2_orderOfNumbers l G x y H0) ⟨(va_cnB (host := RX2) 2 hts ggX1_orderOfSizes_X2_orderOfNumbers rfl rfl rfl (x_nest hE (by decide +kernel)) (hts (.initialized RX2) (by decide +kernel)) (by decide +kernel) ⟨Nat.le_of_ble_eq_true rfl, Nat.le_of_ble_eq_true rfl⟩), hts (.static yX2_orderOfNumbers) (by decide +kernel), trivial⟩ (by omega) rfl rfl hl.1 rfl (lv_room (Nat.le_of_ble_eq_true rfl)) dX1_orderOfSizes_16 ⟨by first | exact Nat.le_of_ble_eq_true rfl | omega, by first | exact Nat.le_of_ble_eq_true rfl | omega⟩) hS (by omega) (fun _ _ _ _ _ h => h.elim) (fun locs hq hS => ?_)
      exact x_iret hx hb hr hlocks h0 hS (by omega) (by omega) dX1_orderOfSizes_19 (⟨rfl, by unfold oS; rw [if_neg (Int32.not_lt.mpr c1), if_neg (Int32.not_lt.mpr c7)], trivial⟩)
    · refine lv_iconst (v := (-1)) hx hb dX1_orderOfSizes_10 (by decide) ?_
      refine lv_goto (tgt := 19) hx hb dX1_orderOfSizes_11 (by decide) ?_
      exact x_iret hx hb hr hlocks h0 hS (by omega) (by omega) dX1_orderOfSizes_19 (⟨rfl, by unfold oS; rw [if_neg (Int32.not_lt.mpr c1), if_pos (Int32.not_le.mp c7)], trivial⟩)
  · refine lv_iconst (v := nI 1) hx hb dX1_orderOfSizes_4 (by decide) ?_
    exact x_iret hx hb hr hlocks h0 hS (by omega) (by omega) dX1_orderOfSizes_5 (⟨rfl, by unfold oS; rw [if_pos (Int32.not_le.mp c1)]; rfl, trivial⟩)

abbrev RMX1_orderOfWords : Room := { frames := 3, cells := 0, slots := 0, locals := 56 }
set_option maxHeartbeats 4000000 in
set_option maxRecDepth 100000 in
/-- two words at a place -/
theorem c_X1_orderOfWords (l : Launch) (G : gG) (v o : Nat) (L P : List Nat) (T S : Tk) (r i u n x k : Nat) (hr3 : r < 3) (hi1 : i < (T r).length) (hi2 : i < (S r).length) (hk1 : kd (cg L (tg (T r) i).1) ≠ 1) (hk2 : kd (cg P (tg (S r) i).1) ≠ 1) (hs : (tg (T r) i).1 = u) (hn : (tg (T r) i).2 = u + n) (ht : (tg (S r) i).1 = x) (hk : (tg (S r) i).2 = x + k) (hnL : u + n ≤ L.length) (hkP : x + k ≤ P.length) (H0 : Heap) (hV : VR G v L T H0) (hW : VR G o P S H0) : XM l yX1_orderOfWords wsX1_orderOfWords RMX1_orderOfWords G [.ref v, .int (nI r), .int (nI i), .ref o] H0 0 0 0 0 (roI H0 (ow L P u n x k) True) xN := by
  refine x_ofW (cc := cX1_orderOfWords) (maxL := 10) (ret := (some .int)) (by decide) rfl (Nat.le_of_ble_eq_true rfl) ?_
  intro p e s m below meth c hx hb hr hml hown hts hlocks hout hin2 h0 hE ls hl
  replace hown : s.vm.findClass RX1 = some m.cls := hown
  have hK := hE.1
  have hS : va_S (gA 0 0 H0.size) H0 H0 [] := va_S.rf
  generalize hargs : ([.ref v, .int (nI r), .int (nI i), .ref o] : List Value).toArray = args at hts ⊢
  have hw0 := hts (.fieldLink RX1 12 "Releaseledger$Version" "told" "LReleaseledger$Text;") (by decide +kernel)
  have hw1 : ∀ w ∈ u_ws RX1 TX1 4, w ∈ wsX1_orderOfWords := by decide +kernel
  have hl : lv_has ls 10 [(0, .ref v), (1, .int (nI r)), (2, .int (nI i)), (3, .ref o)] := hl
  have hO := hV.1.1
  have hO2 := hW.1.1
  have hM := hV.2.1
  have hM2 := hW.2.1
  have hLn := hM.le
  have hPn := hM2.le
  have h60 := hV.2.2.2.2 r hr3
  have h602 := hW.2.2.2.2 r hr3
  refine lv_iconst (v := (-1)) hx hb dX1_orderOfWords_0 (by decide) ?_
  refine lv_aload_n hx hb dX1_orderOfWords_1 rfl (lv_at hl 0 rfl) ?_
  refine lv_iload_n hx hb dX1_orderOfWords_2 rfl (lv_at hl 1 rfl) ?_
  refine lv_iload_n hx hb dX1_orderOfWords_3 rfl (lv_at hl 2 rfl) ?_
  refine x_goI_ro (x_runV (As := [.int (nI r), .int (nI i)]) (rest := [.int (-1)]) ⟨hx, hb, hml, hown, hts⟩ hE h0 hS (c_X1_sizeAt l G v L T r i (by omega) (by omega) H0 hV) (cwV 2 hts gX1_orderOfWords_X1_sizeAt rfl rfl rfl (by decide +kernel) ⟨Nat.le_of_ble_eq_true rfl, Nat.le_of_ble_eq_true rfl⟩) (hV.recv hK) (by omega) rfl rfl hl.1 rfl (lv_room (Nat.le_of_ble_eq_true rfl)) dX1_orderOfWords_4 ⟨by first | exact Nat.le_of_ble_eq_true rfl | omega, by first | exact Nat.le_of_ble_eq_true rfl | omega⟩) hS (by omega) (fun _ _ _ _ _ h => h.elim) (fun locs hq hS => ?_)
  refine x_rw (z := (wI n)) (by rw [tsz_in hi1, szI_w hk1]; exact congrArg wI (by omega)) ?_
  refine lv_isub hx hb dX1_orderOfWords_7 ?_
  refine x_rw (z := (nI n)) (wI_back _) ?_
  refine lv_istore (lv' := [(4, .int (nI n)), (0, .ref v), (1, .int (nI r)), (2, .int (nI i)), (3, .ref o)]) hx hb dX1_orderOfWords_8 hl (by decide) rfl (fun ls hl => ?_)
  refine lv_iconst (v := (-1)) hx hb dX1_orderOfWords_10 (by decide) ?_
  refine lv_aload_n hx hb dX1_orderOfWords_11 rfl (lv_at hl 4 rfl) ?_
  refine lv_iload_n hx hb dX1_orderOfWords_12 rfl (lv_at hl 2 rfl) ?_
  refine lv_iload_n hx hb dX1_orderOfWords_13 rfl (lv_at hl 3 rfl) ?_
  refine x_goI_ro (x_runV (As := [.int (nI r), .int (nI i)]) (rest := [.int (-1)]) ⟨hx, hb, hml, hown, hts⟩ hE h0 hS (c_X1_sizeAt l G o P S r i (by omega) (by omega) H0 hW) (cwV 2 hts gX1_orderOfWords_X1_sizeAt rfl rfl rfl (by decide +kernel) ⟨Nat.le_of_ble_eq_true rfl, Nat.le_of_ble_eq_true rfl⟩) (hW.recv hK) (by omega) rfl rfl hl.1 rfl (lv_room (Nat.le_of_ble_eq_true rfl)) dX1_orderOfWords_14 ⟨by first | exact Nat.le_of_ble_eq_true rfl | omega, by first | exact Nat.le_of_ble_eq_true rfl | omega⟩) hS (by omega) (fun _ _ _ _ _ h => h.elim) (fun locs hq hS => ?_)
  refine x_rw (z := (wI k)) (by rw [tsz_in hi2, szI_w hk2]; exact congrArg wI (by omega)) ?_
  refine lv_isub hx hb dX1_orderOfWords_17 ?_
  refine x_rw (z := (nI k)) (wI_back _) ?_
  refine lv_istore (lv' := [(5, .int (nI k)), (4, .int (nI n)), (0, .ref v), (1, .int (nI r)), (2, .int (nI i)), (3, .ref o)]) hx hb dX1_orderOfWords_18 hl (by decide) rfl (fun ls hl => ?_)
  refine lv_aload_n hx hb dX1_orderOfWords_20 rfl (lv_at hl 2 rfl) ?_
  refine lv_iload_n hx hb dX1_orderOfWords_21 rfl (lv_at hl 3 rfl) ?_
  refine lv_iload_n hx hb dX1_orderOfWords_22 rfl (lv_at hl 4 rfl) ?_
  refine x_goI_ro (x_runV (As := [.int (nI r), .int (nI i)]) (rest := []) ⟨hx, hb, hml, hown, hts⟩ hE h0 hS (c_X1_startAt l G v L T r i (by omega) (by omega) H0 hV) (cwV 2 hts gX1_orderOfWords_X1_startAt rfl rfl rfl (by decide +kernel) ⟨Nat.le_of_ble_eq_true rfl, Nat.le_of_ble_eq_true rfl⟩) (hV.recv hK) (by omega) rfl rfl hl.1 rfl (lv_room (Nat.le_of_ble_eq_true rfl)) dX1_orderOfWords_23 ⟨by first | exact Nat.le_of_ble_eq_true rfl | omega, by first | exact Nat.le_of_ble_eq_true rfl | omega⟩) hS (by omega) (fun _ _ _ _ _ h => h.elim) (fun locs hq hS => ?_)
  refine x_rw (z := (nI u)) (by rw [tst_in hi1, hs]) ?_
  refine lv_istore (lv' := [(6, .int (nI u)), (5, .int (nI k)), (4, .int (nI n)), (0, .ref v), (1, .int (nI r)), (2, .int (nI i)), (3, .ref o)]) hx hb dX1_orderOfWords_26 hl (by decide) rfl (fun ls hl => ?_)
  refine lv_aload_n hx hb dX1_orderOfWords_28 rfl (lv_at hl 6 rfl) ?_
  refine lv_iload_n hx hb dX1_orderOfWords_29 rfl (lv_at hl 4 rfl) ?_
  refine lv_iload_n hx hb dX1_orderOfWords_30 rfl (lv_at hl 5 rfl) ?_
  refine x_goI_ro (x_runV (As := [.int (nI r), .int (nI i)]) (rest := []) ⟨hx, hb, hml, hown, hts⟩ hE h0 hS (c_X1_startAt l G o P S r i (by omega) (by omega) H0 hW) (cwV 2 hts gX1_orderOfWords_X1_startAt rfl rfl rfl (by decide +kernel) ⟨Nat.le_of_ble_eq_true rfl, Nat.le_of_ble_eq_true rfl⟩) (hW.recv hK) (by omega) rfl rfl hl.1 rfl (lv_room (Nat.le_of_ble_eq_true rfl)) dX1_orderOfWords_31 ⟨by first | exact Nat.le_of_ble_eq_true rfl | omega, by first | exact Nat.le_of_ble_eq_true rfl | omega⟩) hS (by omega) (fun _ _ _ _ _ h => h.elim) (fun locs hq hS => ?_)
  refine x_rw (z := (nI x)) (by rw [tst_in hi2, ht]) ?_
  refine lv_istore (lv' := [(7, .int (nI x)), (6, .int (nI u)), (5, .int (nI k)), (4, .int (nI n)), (0, .ref v), (1, .int (nI r)), (2, .int (nI i)), (3, .ref o)]) hx hb dX1_orderOfWords_34 hl (by decide) rfl (fun ls hl => ?_)
  refine lv_iconst (v := nI 0) hx hb dX1_orderOfWords_36 (by decide) ?_
  refine lv_istore (lv' := [(8, .int (nI 0)), (7, .int (nI x)), (6, .int (nI u)), (5, .int (nI k)), (4, .int (nI n)), (0, .ref v), (1, .int (nI r)), (2, .int (nI i)), (3, .ref o)]) hx hb dX1_orderOfWords_37 hl (by decide) rfl (fun ls hl => ?_)
  have loop39 : ∀ (fu : Nat) (j : Nat) (hj : j ≤ n ∧ j ≤ k) (hz : ∀ a, a < j → oI (nI (cg L (u + a))) (nI (cg P (x + a))) = 0) (locs : List Loc) (hS : va_S (gA 0 0 H0.size) H0 H0 locs) (ls : Array Slot), n - j < fu → lv_has ls 10 [(8, .int (nI j)), (7, .int (nI x)), (6, .int (nI u)), (5, .int (nI k)), (4, .int (nI n)), (3, .ref o), (2, .int (nI i)), (1, .int (nI r)), (0, .ref v)] → W p l e RMX1_orderOfWords s m args below meth c H0 locs (0 + 0 + 0 + 0 + 0) (0 + 0 + 0 + 0 + 0) (XQ below args s H0 0 0 0 0 (roI H0 (ow L P u n x k) True) xN) (F0 m 39 ls []) := by
    intro fu39
    induction fu39 with
    | zero => intro j hj hz locs hS  ls hmu; exact absurd hmu (Nat.not_lt_zero _)
    | succ fu39 ih39 =>
      intro j hj hz locs hS  ls hmu39 hl
      refine lv_iload hx hb dX1_orderOfWords_39 (lv_at hl 0 rfl) ?_
      refine lv_iload hx hb dX1_orderOfWords_41 (lv_at hl 4 rfl) ?_
      refine x_icmp_ge (tgt := 96) hx hb (by omega) (by omega) dX1_orderOfWords_43 (by decide) (fun c43 => ?_) (fun c43 => ?_)
      · refine lv_iload hx hb dX1_orderOfWords_96 (lv_at hl 4 rfl) ?_
        refine lv_iload hx hb dX1_orderOfWords_98 (lv_at hl 3 rfl) ?_
        refine x_goI_ro (x_runSN (As := [.int (nI n), .int (nI k)]) (rest := []) ⟨hx, hb, hml, hown, hts⟩ hE h0 hS (c_X2_orderOfNumbers l G (nI n) (nI k) H0) ⟨(va_cnB (host := RX2) 2 hts ggX1_orderOfWords_X2_orderOfNumbers rfl rfl rfl (x_nest hE (by decide +kernel)) (hts (.initialized RX2) (by decide +kernel)) (by decide +kernel) ⟨Nat.le_of_ble_eq_true rfl, Nat.le_of_ble_eq_true rfl⟩), hts (.static yX2_orderOfNumbers) (by decide +kernel), trivial⟩ (by omega) rfl rfl hl.1 rfl (lv_room (Nat.le_of_ble_eq_true rfl)) dX1_orderOfWords_100 ⟨by first | exact Nat.le_of_ble_eq_true rfl | omega, by first | exact Nat.le_of_ble_eq_true rfl | omega⟩) hS (by omega) (fun _ _ _ _ _ h => h.elim) (fun locs hq hS => ?_)
        exact x_iret hx hb hr hlocks h0 hS (by omega) (by omega) dX1_orderOfWords_103 (⟨rfl, (ow_end hz (by omega)).symm, trivial⟩)
      · refine lv_iload hx hb dX1_orderOfWords_46 (lv_at hl 0 rfl) ?_
        refine lv_iload hx hb dX1_orderOfWords_48 (lv_at hl 3 rfl) ?_
        refine x_icmp_ge (tgt := 96) hx hb (by omega) (by omega) dX1_orderOfWords_50 (by decide) (fun c50 => ?_) (fun c50 => ?_)
        · refine lv_iload hx hb dX1_orderOfWords_96 (lv_at hl 4 rfl) ?_
          refine lv_iload hx hb dX1_orderOfWords_98 (lv_at hl 3 rfl) ?_
          refine x_goI_ro (x_runSN (As := [.int (nI n), .int (nI k)]) (rest := []) ⟨hx, hb, hml, hown, hts⟩ hE h0 hS (c_X2_orderOfNumbers l G (nI n) (nI k) H0) ⟨(va_cnB (host := RX2) 2 hts ggX1_orderOfWords_X2_orderOfNumbers rfl rfl rfl (x_nest hE (by decide +kernel)) (hts (.initialized RX2) (by decide +kernel)) (by decide +kernel) ⟨Nat.le_of_ble_eq_true rfl, Nat.le_of_ble_eq_true rfl⟩), hts (.static yX2_orderOfNumbers) (by decide +kernel), trivial⟩ (by omega) rfl rfl hl.1 rfl (lv_room (Nat.le_of_ble_eq_true rfl)) dX1_orderOfWords_100 ⟨by first | exact Nat.le_of_ble_eq_true rfl | omega, by first | exact Nat.le_of_ble_eq_true rfl | omega⟩) hS (by omega) (fun _ _ _ _ _ h => h.elim) (fun locs hq hS => ?_)
          exact x_iret hx hb hr hlocks h0 hS (by omega) (by omega) dX1_orderOfWords_103 (⟨rfl, (ow_end hz (by omega)).symm, trivial⟩)
        · refine lv_aload_n hx hb dX1_orderOfWords_53 rfl (lv_at hl 8 rfl) ?_
          refine x_get (ci := 1) hx hb hts hown hK rfl hw1 0 (by decide) hw0 hO rfl dX1_orderOfWords_54 ?_
          refine lv_iload hx hb dX1_orderOfWords_57 (lv_at hl 2 rfl) ?_
          refine lv_iload hx hb dX1_orderOfWords_59 (lv_at hl 0 rfl) ?_
          refine lv_iadd hx hb dX1_orderOfWords_61 ?_
          refine x_rw (z := nI (u + j)) (nI_add _ _) ?_
          refine x_goI_ro (x_runV (As := [.int (nI (u + j))]) (rest := []) ⟨hx, hb, hml, hown, hts⟩ hE h0 hS (c_X0_signAt l G (v + 1) L (u + j) (by omega) H0 hM) (cwV 1 hts gX1_orderOfWords_X0_signAt rfl rfl rfl (by decide +kernel) ⟨Nat.le_of_ble_eq_true rfl, Nat.le_of_ble_eq_true rfl⟩) (hM.recv hK) (by omega) rfl rfl hl.1 rfl (lv_room (Nat.le_of_ble_eq_true rfl)) dX1_orderOfWords_62 ⟨by first | exact Nat.le_of_ble_eq_true rfl | omega, by first | exact Nat.le_of_ble_eq_true rfl | omega⟩) hS (by omega) (fun _ _ _ _ _ h => h.elim) (fun locs hq hS => ?_)
          refine lv_aload_n hx hb dX1_orderOfWords_65 rfl (lv_at hl 5 rfl) ?_
          refine x_get (ci := 1) hx hb hts hown hK rfl hw1 0 (by decide) hw0 hO2 rfl dX1_orderOfWords_66 ?_
          refine lv_iload hx hb dX1_orderOfWords_69 (lv_at hl 1 rfl) ?_
          refine lv_iload hx hb dX1_orderOfWords_71 (lv_at hl 0 rfl) ?_
          refine lv_iadd hx hb dX1_orderOfWords_73 ?_
          refine x_rw (z := nI (x + j)) (nI_add _ _) ?_
          refine x_goI_ro (x_runV (As := [.int (nI (x + j))]) (rest := [.int (nI (cg L (u + j)))]) ⟨hx, hb, hml, hown, hts⟩ hE h0 hS (c_X0_signAt l G (o + 1) P (x + j) (by omega) H0 hM2) (cwV 1 hts gX1_orderOfWords_X0_signAt rfl rfl rfl (by decide +kernel) ⟨Nat.le_of_ble_eq_true rfl, Nat.le_of_ble_eq_true rfl⟩) (hM2.recv hK) (by omega) rfl rfl hl.1 rfl (lv_room (Nat.le_of_ble_eq_true rfl)) dX1_orderOfWords_74 ⟨by first | exact Nat.le_of_ble_eq_true rfl | omega, by first | exact Nat.le_of_ble_eq_true rfl | omega⟩) hS (by omega) (fun _ _ _ _ _ h => h.elim) (fun locs hq hS => ?_)
          refine x_goI_ro (x_runSN (As := [.int (nI (cg L (u + j))), .int (nI (cg P (x + j)))]) (rest := []) ⟨hx, hb, hml, hown, hts⟩ hE h0 hS (c_X2_orderOfNumbers l G (nI (cg L (u + j))) (nI (cg P (x + j))) H0) ⟨(va_cnB (host := RX2) 2 hts ggX1_orderOfWords_X2_orderOfNumbers rfl rfl rfl (x_nest hE (by decide +kernel)) (hts (.initialized RX2) (by decide +kernel)) (by decide +kernel) ⟨Nat.le_of_ble_eq_true rfl, Nat.le_of_ble_eq_true rfl⟩), hts (.static yX2_orderOfNumbers) (by decide +kernel), trivial⟩ (by omega) rfl rfl hl.1 rfl (lv_room (Nat.le_of_ble_eq_true rfl)) dX1_orderOfWords_77 ⟨by first | exact Nat.le_of_ble_eq_true rfl | omega, by first | exact Nat.le_of_ble_eq_true rfl | omega⟩) hS (by omega) (fun _ _ _ _ _ h => h.elim) (fun locs hq hS => ?_)
          refine lv_istore (lv' := [(9, .int (oI (nI (cg L (u + j))) (nI (cg P (x + j))))), (8, .int (nI j)), (7, .int (nI x)), (6, .int (nI u)), (5, .int (nI k)), (4, .int (nI n)), (3, .ref o), (2, .int (nI i)), (1, .int (nI r)), (0, .ref v)]) hx hb dX1_orderOfWords_80 hl (by decide) rfl (fun ls hl => ?_)
          refine lv_iload hx hb dX1_orderOfWords_82 (lv_at hl 0 rfl) ?_
          refine lv_if_eq (tgt := 90) hx hb dX1_orderOfWords_84 (by decide) (fun c84 => ?_) (fun c84 => ?_)
          · refine lv_iinc (v := nI (j + 1)) (lv' := [(8, .int (nI (j + 1))), (9, .int (oI (nI (cg L (u + j))) (nI (cg P (x + j))))), (7, .int (nI x)), (6, .int (nI u)), (5, .int (nI k)), (4, .int (nI n)), (3, .ref o), (2, .int (nI i)), (1, .int (nI r)), (0, .ref v)]) hx hb dX1_orderOfWords_90 hl (k := 1) rfl (nI_1 _) (by decide) rfl (fun ls hl => ?_)
            refine lv_goto (tgt := 39) hx hb dX1_orderOfWords_93 (by decide) ?_
            exact ih39 (j + 1) (by omega) (lt_s hz c84) _ hS ls (by omega) (lv_sub hl [0, 2, 3, 4, 5, 6, 7, 8, 9] rfl)
          · refine lv_iload hx hb dX1_orderOfWords_87 (lv_at hl 0 rfl) ?_
            exact x_iret hx hb hr hlocks h0 hS (by omega) (by omega) dX1_orderOfWords_89 (⟨rfl, (ow_hit hz c84 (by omega)).symm, trivial⟩)
  exact loop39 _ 0 (by omega) lt_0 _ hS ls (Nat.lt_succ_self _) (lv_sub hl [0, 1, 2, 3, 4, 8, 7, 6, 5] rfl)

abbrev RMX1_orderOfRow : Room := { frames := 4, cells := 0, slots := 0, locals := 85 }
set_option maxHeartbeats 4000000 in
set_option maxRecDepth 100000 in
/-- the order of two rows -/
theorem c_X1_orderOfRow (l : Launch) (G : gG) (v o : Nat) (L P : List Nat) (T S : Tk) (r : Nat) (hr3 : r < 3) (hJ : Jt L T) (hJ2 : Jt P S) (H0 : Heap) (hV : VR G v L T H0) (hW : VR G o P S H0) : XM l yX1_orderOfRow wsX1_orderOfRow RMX1_orderOfRow G [.ref v, .int (nI r), .ref o] H0 0 0 0 0 (roI H0 (rcmp L T P S r) True) xN := by
  refine x_ofW (cc := cX1_orderOfRow) (maxL := 8) (ret := (some .int)) (by decide) rfl (Nat.le_of_ble_eq_true rfl) ?_
  intro p e s m below meth c hx hb hr hml hown hts hlocks hout hin2 h0 hE ls hl
  replace hown : s.vm.findClass RX1 = some m.cls := hown
  have hK := hE.1
  have hS : va_S (gA 0 0 H0.size) H0 H0 [] := va_S.rf
  generalize hargs : ([.ref v, .int (nI r), .ref o] : List Value).toArray = args at hts ⊢
  have hl : lv_has ls 8 [(0, .ref v), (1, .int (nI r)), (2, .ref o)] := hl
  have h60 := hV.2.2.2.2 r hr3
  have h602 := hW.2.2.2.2 r hr3
  refine lv_iload_n hx hb dX1_orderOfRow_0 rfl (lv_at hl 1 rfl) ?_
  refine lv_iconst (v := nI 1) hx hb dX1_orderOfRow_1 (by decide) ?_
  refine x_icmp_ne (tgt := 32) hx hb (by omega) (by omega) dX1_orderOfRow_2 (by decide) (fun c2 => ?_) (fun c2 => ?_)
  · have hrc := rcmp_row (L := L) (P := P) (T := T) (S := S) (r := r) (Or.inl c2)
    refine lv_aload_n hx hb dX1_orderOfRow_32 rfl (lv_at hl 0 rfl) ?_
    refine lv_iload_n hx hb dX1_orderOfRow_33 rfl (lv_at hl 1 rfl) ?_
    refine x_goI_ro (x_runV (As := [.int (nI r)]) (rest := []) ⟨hx, hb, hml, hown, hts⟩ hE h0 hS (c_X1_tokensIn l G v L T r (by omega) H0 hV) (cwV 1 hts gX1_orderOfRow_X1_tokensIn rfl rfl rfl (by decide +kernel) ⟨Nat.le_of_ble_eq_true rfl, Nat.le_of_ble_eq_true rfl⟩) (hV.recv hK) (by omega) rfl rfl hl.1 rfl (lv_room (Nat.le_of_ble_eq_true rfl)) dX1_orderOfRow_34 ⟨by first | exact Nat.le_of_ble_eq_true rfl | omega, by first | exact Nat.le_of_ble_eq_true rfl | omega⟩) hS (by omega) (fun _ _ _ _ _ h => h.elim) (fun locs hq hS => ?_)
    have hl60 := hV.2.2.2.2 r (by omega)
    refine lv_aload_n hx hb dX1_orderOfRow_37 rfl (lv_at hl 2 rfl) ?_
    refine lv_iload_n hx hb dX1_orderOfRow_38 rfl (lv_at hl 1 rfl) ?_
    refine x_goI_ro (x_runV (As := [.int (nI r)]) (rest := [.int (nI ((T r).length))]) ⟨hx, hb, hml, hown, hts⟩ hE h0 hS (c_X1_tokensIn l G o P S r (by omega) H0 hW) (cwV 1 hts gX1_orderOfRow_X1_tokensIn rfl rfl rfl (by decide +kernel) ⟨Nat.le_of_ble_eq_true rfl, Nat.le_of_ble_eq_true rfl⟩) (hW.recv hK) (by omega) rfl rfl hl.1 rfl (lv_room (Nat.le_of_ble_eq_true rfl)) dX1_orderOfRow_39 ⟨by first | exact Nat.le_of_ble_eq_true rfl | omega, by first | exact Nat.le_of_ble_eq_true rfl | omega⟩) hS (by omega) (fun _ _ _ _ _ h => h.elim) (fun locs hq hS => ?_)
    have hl60 := hW.2.2.2.2 r (by omega)
    refine va_mmax hx hb (by rw [hml]; exact hl.1.symm) hown (hts (.methodLink RX1 84 Lib.Math.max.name) (by decide +kernel)) (hts (.static Lib.Math.max.name) (by decide +kernel)) (hts (.initialized "java/lang/Math") (by decide +kernel)) (hts (.code Lib.Math.max.name Lib.Math.max.code 2 (some .int)) (by decide +kernel)) (Nat.le_of_ble_eq_true rfl) (Nat.le_of_ble_eq_true rfl) (Nat.le_of_ble_eq_true rfl) (Nat.le_of_ble_eq_true rfl) dX1_orderOfRow_42 ?_
    refine x_rw (z := nI (max ((T r).length) ((S r).length))) (max_N (by omega) (by omega)) ?_
    refine lv_istore_n (lv' := [(3, .int (nI (max ((T r).length) ((S r).length)))), (0, .ref v), (1, .int (nI r)), (2, .ref o)]) hx hb dX1_orderOfRow_45 rfl hl (by decide) rfl (fun ls hl => ?_)
    refine lv_iconst (v := nI 0) hx hb dX1_orderOfRow_46 (by decide) ?_
    refine lv_istore (lv' := [(4, .int (nI 0)), (3, .int (nI (max ((T r).length) ((S r).length)))), (0, .ref v), (1, .int (nI r)), (2, .ref o)]) hx hb dX1_orderOfRow_47 hl (by decide) rfl (fun ls hl => ?_)
    have loop49 : ∀ (fu : Nat) (i : Nat) (hi : i ≤ max (T r).length (S r).length) (hz : ∀ a, a < i → tcmp L T P S r a = 0) (locs : List Loc) (hS : va_S (gA 0 0 H0.size) H0 H0 locs) (ls : Array Slot), max (T r).length (S r).length - i < fu → lv_has ls 8 [(4, .int (nI i)), (3, .int (nI (max ((T r).length) ((S r).length)))), (2, .ref o), (1, .int (nI r)), (0, .ref v)] → W p l e RMX1_orderOfRow s m args below meth c H0 locs (0 + 0 + 0) (0 + 0 + 0) (XQ below args s H0 0 0 0 0 (roI H0 (rcmp L T P S r) True) xN) (F0 m 49 ls []) := by
      intro fu49
      induction fu49 with
      | zero => intro i hi hz locs hS  ls hmu; exact absurd hmu (Nat.not_lt_zero _)
      | succ fu49 ih49 =>
        intro i hi hz locs hS  ls hmu49 hl
        refine lv_iload hx hb dX1_orderOfRow_49 (lv_at hl 0 rfl) ?_
        refine lv_iload_n hx hb dX1_orderOfRow_51 rfl (lv_at hl 1 rfl) ?_
        refine x_icmp_ge (tgt := 117) hx hb (by omega) (by omega) dX1_orderOfRow_52 (by decide) (fun c52 => ?_) (fun c52 => ?_)
        · refine lv_iconst (v := nI 0) hx hb dX1_orderOfRow_117 (by decide) ?_
          exact x_iret hx hb hr hlocks h0 hS (by omega) (by omega) dX1_orderOfRow_118 (⟨rfl, by rw [hrc, fz_none (fun a ha => hz a (by omega))]; rfl, trivial⟩)
        · refine lv_aload_n hx hb dX1_orderOfRow_55 rfl (lv_at hl 4 rfl) ?_
          refine lv_iload_n hx hb dX1_orderOfRow_56 rfl (lv_at hl 3 rfl) ?_
          refine lv_iload hx hb dX1_orderOfRow_57 (lv_at hl 0 rfl) ?_
          refine x_goI_ro (x_runV (As := [.int (nI r), .int (nI i)]) (rest := []) ⟨hx, hb, hml, hown, hts⟩ hE h0 hS (c_X1_sizeAt l G v L T r i (by omega) (by omega) H0 hV) (cwV 2 hts gX1_orderOfRow_X1_sizeAt rfl rfl rfl (by decide +kernel) ⟨Nat.le_of_ble_eq_true rfl, Nat.le_of_ble_eq_true rfl⟩) (hV.recv hK) (by omega) rfl rfl hl.1 rfl (lv_room (Nat.le_of_ble_eq_true rfl)) dX1_orderOfRow_59 ⟨by first | exact Nat.le_of_ble_eq_true rfl | omega, by first | exact Nat.le_of_ble_eq_true rfl | omega⟩) hS (by omega) (fun _ _ _ _ _ h => h.elim) (fun locs hq hS => ?_)
          refine lv_istore (lv' := [(5, .int (tsz L T r i)), (4, .int (nI i)), (3, .int (nI (max ((T r).length) ((S r).length)))), (2, .ref o), (1, .int (nI r)), (0, .ref v)]) hx hb dX1_orderOfRow_62 hl (by decide) rfl (fun ls hl => ?_)
          refine lv_aload_n hx hb dX1_orderOfRow_64 rfl (lv_at hl 3 rfl) ?_
          refine lv_iload_n hx hb dX1_orderOfRow_65 rfl (lv_at hl 4 rfl) ?_
          refine lv_iload hx hb dX1_orderOfRow_66 (lv_at hl 1 rfl) ?_
          refine x_goI_ro (x_runV (As := [.int (nI r), .int (nI i)]) (rest := []) ⟨hx, hb, hml, hown, hts⟩ hE h0 hS (c_X1_sizeAt l G o P S r i (by omega) (by omega) H0 hW) (cwV 2 hts gX1_orderOfRow_X1_sizeAt rfl rfl rfl (by decide +kernel) ⟨Nat.le_of_ble_eq_true rfl, Nat.le_of_ble_eq_true rfl⟩) (hW.recv hK) (by omega) rfl rfl hl.1 rfl (lv_room (Nat.le_of_ble_eq_true rfl)) dX1_orderOfRow_68 ⟨by first | exact Nat.le_of_ble_eq_true rfl | omega, by first | exact Nat.le_of_ble_eq_true rfl | omega⟩) hS (by omega) (fun _ _ _ _ _ h => h.elim) (fun locs hq hS => ?_)
          refine lv_istore (lv' := [(6, .int (tsz P S r i)), (5, .int (tsz L T r i)), (4, .int (nI i)), (3, .int (nI (max ((T r).length) ((S r).length)))), (2, .ref o), (1, .int (nI r)), (0, .ref v)]) hx hb dX1_orderOfRow_71 hl (by decide) rfl (fun ls hl => ?_)
          refine lv_iload hx hb dX1_orderOfRow_73 (lv_at hl 1 rfl) ?_
          refine lv_if_ge (tgt := 94) hx hb dX1_orderOfRow_75 (by decide) (fun c75 => ?_) (fun c75 => ?_)
          · have hcm : oS (tsz L T r i) (tsz P S r i) = tcmp L T P S r i := (if_neg (fun q => absurd c75 (Int32.not_le.mpr q.1))).symm
            refine lv_iload hx hb dX1_orderOfRow_94 (lv_at hl 1 rfl) ?_
            refine lv_iload hx hb dX1_orderOfRow_96 (lv_at hl 0 rfl) ?_
            refine x_goI_ro (x_runS (As := [.int (tsz L T r i), .int (tsz P S r i)]) (rest := []) ⟨hx, hb, hml, hown, hts⟩ hE h0 hS (c_X1_orderOfSizes l G (tsz L T r i) (tsz P S r i) H0) (va_cwS 2 hts gX1_orderOfRow_X1_orderOfSizes rfl rfl rfl (by decide +kernel) ⟨Nat.le_of_ble_eq_true rfl, Nat.le_of_ble_eq_true rfl⟩) (by omega) rfl rfl hl.1 rfl (lv_room (Nat.le_of_ble_eq_true rfl)) dX1_orderOfRow_98 ⟨by first | exact Nat.le_of_ble_eq_true rfl | omega, by first | exact Nat.le_of_ble_eq_true rfl | omega⟩) hS (by omega) (fun _ _ _ _ _ h => h.elim) (fun locs hq hS => ?_)
            refine x_rw (z := (tcmp L T P S r i)) hcm ?_
            refine lv_istore (lv' := [(7, .int (tcmp L T P S r i)), (6, .int (tsz P S r i)), (5, .int (tsz L T r i)), (4, .int (nI i)), (3, .int (nI (max ((T r).length) ((S r).length)))), (2, .ref o), (1, .int (nI r)), (0, .ref v)]) hx hb dX1_orderOfRow_101 hl (by decide) rfl (fun ls hl => ?_)
            refine lv_iload hx hb dX1_orderOfRow_103 (lv_at hl 0 rfl) ?_
            refine lv_if_eq (tgt := 111) hx hb dX1_orderOfRow_105 (by decide) (fun c105 => ?_) (fun c105 => ?_)
            · refine lv_iinc (v := nI (i + 1)) (lv' := [(4, .int (nI (i + 1))), (7, .int (tcmp L T P S r i)), (6, .int (tsz P S r i)), (5, .int (tsz L T r i)), (3, .int (nI (max ((T r).length) ((S r).length)))), (2, .ref o), (1, .int (nI r)), (0, .ref v)]) hx hb dX1_orderOfRow_111 hl (k := 3) rfl (nI_1 _) (by decide) rfl (fun ls hl => ?_)
              refine lv_goto (tgt := 49) hx hb dX1_orderOfRow_114 (by decide) ?_
              exact ih49 (i + 1) (by omega) (lt_s hz c105) _ hS ls (by omega) (lv_sub hl [0, 4, 5, 6, 7] rfl)
            · refine lv_iload hx hb dX1_orderOfRow_108 (lv_at hl 0 rfl) ?_
              exact x_iret hx hb hr hlocks h0 hS (by omega) (by omega) dX1_orderOfRow_110 (⟨rfl, by rw [hrc, fz_hit (f := fun i => tcmp L T P S r i) hz c105 (by omega)], trivial⟩)
          · refine lv_iload hx hb dX1_orderOfRow_78 (lv_at hl 0 rfl) ?_
            refine lv_if_ge (tgt := 94) hx hb dX1_orderOfRow_80 (by decide) (fun c80 => ?_) (fun c80 => ?_)
            · have hcm : oS (tsz L T r i) (tsz P S r i) = tcmp L T P S r i := (if_neg (fun q => absurd c80 (Int32.not_le.mpr q.2))).symm
              refine lv_iload hx hb dX1_orderOfRow_94 (lv_at hl 1 rfl) ?_
              refine lv_iload hx hb dX1_orderOfRow_96 (lv_at hl 0 rfl) ?_
              refine x_goI_ro (x_runS (As := [.int (tsz L T r i), .int (tsz P S r i)]) (rest := []) ⟨hx, hb, hml, hown, hts⟩ hE h0 hS (c_X1_orderOfSizes l G (tsz L T r i) (tsz P S r i) H0) (va_cwS 2 hts gX1_orderOfRow_X1_orderOfSizes rfl rfl rfl (by decide +kernel) ⟨Nat.le_of_ble_eq_true rfl, Nat.le_of_ble_eq_true rfl⟩) (by omega) rfl rfl hl.1 rfl (lv_room (Nat.le_of_ble_eq_true rfl)) dX1_orderOfRow_98 ⟨by first | exact Nat.le_of_ble_eq_true rfl | omega, by first | exact Nat.le_of_ble_eq_true rfl | omega⟩) hS (by omega) (fun _ _ _ _ _ h => h.elim) (fun locs hq hS => ?_)
              refine x_rw (z := (tcmp L T P S r i)) hcm ?_
              refine lv_istore (lv' := [(7, .int (tcmp L T P S r i)), (6, .int (tsz P S r i)), (5, .int (tsz L T r i)), (4, .int (nI i)), (3, .int (nI (max ((T r).length) ((S r).length)))), (2, .ref o), (1, .int (nI r)), (0, .ref v)]) hx hb dX1_orderOfRow_101 hl (by decide) rfl (fun ls hl => ?_)
              refine lv_iload hx hb dX1_orderOfRow_103 (lv_at hl 0 rfl) ?_
              refine lv_if_eq (tgt := 111) hx hb dX1_orderOfRow_105 (by decide) (fun c105 => ?_) (fun c105 => ?_)
              · refine lv_iinc (v := nI (i + 1)) (lv' := [(4, .int (nI (i + 1))), (7, .int (tcmp L T P S r i)), (6, .int (tsz P S r i)), (5, .int (tsz L T r i)), (3, .int (nI (max ((T r).length) ((S r).length)))), (2, .ref o), (1, .int (nI r)), (0, .ref v)]) hx hb dX1_orderOfRow_111 hl (k := 3) rfl (nI_1 _) (by decide) rfl (fun ls hl => ?_)
                refine lv_goto (tgt := 49) hx hb dX1_orderOfRow_114 (by decide) ?_
                exact ih49 (i + 1) (by omega) (lt_s hz c105) _ hS ls (by omega) (lv_sub hl [0, 4, 5, 6, 7] rfl)
              · refine lv_iload hx hb dX1_orderOfRow_108 (lv_at hl 0 rfl) ?_
                exact x_iret hx hb hr hlocks h0 hS (by omega) (by omega) dX1_orderOfRow_110 (⟨rfl, by rw [hrc, fz_hit (f := fun i => tcmp L T P S r i) hz c105 (by omega)], trivial⟩)
            · obtain ⟨hi1, hk1⟩ := tsz_neg hJ hr3 (Int32.not_le.mp c75)
              obtain ⟨hi2, hk2⟩ := tsz_neg hJ2 hr3 (Int32.not_le.mp c80)
              have hb1 := hJ.lt hr3 hi1
              have hb2 := hJ2.lt hr3 hi2
              have hcm : ow L P (tg (T r) i).1 ((tg (T r) i).2 - (tg (T r) i).1) (tg (S r) i).1 ((tg (S r) i).2 - (tg (S r) i).1) = tcmp L T P S r i := (if_pos ⟨Int32.not_le.mp c75, Int32.not_le.mp c80⟩).symm
              refine lv_aload_n hx hb dX1_orderOfRow_83 rfl (lv_at hl 6 rfl) ?_
              refine lv_iload_n hx hb dX1_orderOfRow_84 rfl (lv_at hl 5 rfl) ?_
              refine lv_iload hx hb dX1_orderOfRow_85 (lv_at hl 2 rfl) ?_
              refine lv_aload_n hx hb dX1_orderOfRow_87 rfl (lv_at hl 4 rfl) ?_
              refine x_goI_ro (x_runV (As := [.int (nI r), .int (nI i), .ref o]) (rest := []) ⟨hx, hb, hml, hown, hts⟩ hE h0 hS (c_X1_orderOfWords l G v o L P T S r i (tg (T r) i).1 ((tg (T r) i).2 - (tg (T r) i).1) (tg (S r) i).1 ((tg (S r) i).2 - (tg (S r) i).1) hr3 hi1 hi2 hk1 hk2 rfl (by omega) rfl (by omega) (by omega) (by omega) H0 hV hW) (cwV 3 hts gX1_orderOfRow_X1_orderOfWords rfl rfl rfl (by decide +kernel) ⟨Nat.le_of_ble_eq_true rfl, Nat.le_of_ble_eq_true rfl⟩) (hV.recv hK) (by omega) rfl rfl hl.1 rfl (lv_room (Nat.le_of_ble_eq_true rfl)) dX1_orderOfRow_88 ⟨by first | exact Nat.le_of_ble_eq_true rfl | omega, by first | exact Nat.le_of_ble_eq_true rfl | omega⟩) hS (by omega) (fun _ _ _ _ _ h => h.elim) (fun locs hq hS => ?_)
              refine lv_goto (tgt := 101) hx hb dX1_orderOfRow_91 (by decide) ?_
              refine x_rw (z := (tcmp L T P S r i)) hcm ?_
              refine lv_istore (lv' := [(7, .int (tcmp L T P S r i)), (6, .int (tsz P S r i)), (5, .int (tsz L T r i)), (4, .int (nI i)), (3, .int (nI (max ((T r).length) ((S r).length)))), (2, .ref o), (1, .int (nI r)), (0, .ref v)]) hx hb dX1_orderOfRow_101 hl (by decide) rfl (fun ls hl => ?_)
              refine lv_iload hx hb dX1_orderOfRow_103 (lv_at hl 0 rfl) ?_
              refine lv_if_eq (tgt := 111) hx hb dX1_orderOfRow_105 (by decide) (fun c105 => ?_) (fun c105 => ?_)
              · refine lv_iinc (v := nI (i + 1)) (lv' := [(4, .int (nI (i + 1))), (7, .int (tcmp L T P S r i)), (6, .int (tsz P S r i)), (5, .int (tsz L T r i)), (3, .int (nI (max ((T r).length) ((S r).length)))), (2, .ref o), (1, .int (nI r)), (0, .ref v)]) hx hb dX1_orderOfRow_111 hl (k := 3) rfl (nI_1 _) (by decide) rfl (fun ls hl => ?_)
                refine lv_goto (tgt := 49) hx hb dX1_orderOfRow_114 (by decide) ?_
                exact ih49 (i + 1) (by omega) (lt_s hz c105) _ hS ls (by omega) (lv_sub hl [0, 4, 5, 6, 7] rfl)
              · refine lv_iload hx hb dX1_orderOfRow_108 (lv_at hl 0 rfl) ?_
                exact x_iret hx hb hr hlocks h0 hS (by omega) (by omega) dX1_orderOfRow_110 (⟨rfl, by rw [hrc, fz_hit (f := fun i => tcmp L T P S r i) hz c105 (by omega)], trivial⟩)
    exact loop49 _ 0 (by omega) lt_0 _ hS ls (Nat.lt_succ_self _) (lv_sub hl [0, 1, 4, 3, 2] rfl)
  · refine lv_aload_n hx hb dX1_orderOfRow_5 rfl (lv_at hl 0 rfl) ?_
    refine lv_iload_n hx hb dX1_orderOfRow_6 rfl (lv_at hl 1 rfl) ?_
    refine x_goI_ro (x_runV (As := [.int (nI r)]) (rest := []) ⟨hx, hb, hml, hown, hts⟩ hE h0 hS (c_X1_hasRow l G v L T r (by omega) H0 hV) (cwV 1 hts gX1_orderOfRow_X1_hasRow rfl rfl rfl (by decide +kernel) ⟨Nat.le_of_ble_eq_true rfl, Nat.le_of_ble_eq_true rfl⟩) (hV.recv hK) (by omega) rfl rfl hl.1 rfl (lv_room (Nat.le_of_ble_eq_true rfl)) dX1_orderOfRow_7 ⟨by first | exact Nat.le_of_ble_eq_true rfl | omega, by first | exact Nat.le_of_ble_eq_true rfl | omega⟩) hS (by omega) (fun _ _ _ _ _ h => h.elim) (fun locs hq hS => ?_)
    refine lv_aload_n hx hb dX1_orderOfRow_10 rfl (lv_at hl 2 rfl) ?_
    refine lv_iload_n hx hb dX1_orderOfRow_11 rfl (lv_at hl 1 rfl) ?_
    refine x_goI_ro (x_runV (As := [.int (nI r)]) (rest := [.int (bI (decide (0 < (T r).length)))]) ⟨hx, hb, hml, hown, hts⟩ hE h0 hS (c_X1_hasRow l G o P S r (by omega) H0 hW) (cwV 1 hts gX1_orderOfRow_X1_hasRow rfl rfl rfl (by decide +kernel) ⟨Nat.le_of_ble_eq_true rfl, Nat.le_of_ble_eq_true rfl⟩) (hW.recv hK) (by omega) rfl rfl hl.1 rfl (lv_room (Nat.le_of_ble_eq_true rfl)) dX1_orderOfRow_12 ⟨by first | exact Nat.le_of_ble_eq_true rfl | omega, by first | exact Nat.le_of_ble_eq_true rfl | omega⟩) hS (by omega) (fun _ _ _ _ _ h => h.elim) (fun locs hq hS => ?_)
    refine lv_icmp_eq (tgt := 32) hx hb dX1_orderOfRow_15 (by decide) (fun c15 => ?_) (fun c15 => ?_)
    · have hrc := rcmp_row (L := L) (P := P) (T := T) (S := S) (r := r) (Or.inr c15)
      refine lv_aload_n hx hb dX1_orderOfRow_32 rfl (lv_at hl 0 rfl) ?_
      refine lv_iload_n hx hb dX1_orderOfRow_33 rfl (lv_at hl 1 rfl) ?_
      refine x_goI_ro (x_runV (As := [.int (nI r)]) (rest := []) ⟨hx, hb, hml, hown, hts⟩ hE h0 hS (c_X1_tokensIn l G v L T r (by omega) H0 hV) (cwV 1 hts gX1_orderOfRow_X1_tokensIn rfl rfl rfl (by decide +kernel) ⟨Nat.le_of_ble_eq_true rfl, Nat.le_of_ble_eq_true rfl⟩) (hV.recv hK) (by omega) rfl rfl hl.1 rfl (lv_room (Nat.le_of_ble_eq_true rfl)) dX1_orderOfRow_34 ⟨by first | exact Nat.le_of_ble_eq_true rfl | omega, by first | exact Nat.le_of_ble_eq_true rfl | omega⟩) hS (by omega) (fun _ _ _ _ _ h => h.elim) (fun locs hq hS => ?_)
      have hl60 := hV.2.2.2.2 r (by omega)
      refine lv_aload_n hx hb dX1_orderOfRow_37 rfl (lv_at hl 2 rfl) ?_
      refine lv_iload_n hx hb dX1_orderOfRow_38 rfl (lv_at hl 1 rfl) ?_
      refine x_goI_ro (x_runV (As := [.int (nI r)]) (rest := [.int (nI ((T r).length))]) ⟨hx, hb, hml, hown, hts⟩ hE h0 hS (c_X1_tokensIn l G o P S r (by omega) H0 hW) (cwV 1 hts gX1_orderOfRow_X1_tokensIn rfl rfl rfl (by decide +kernel) ⟨Nat.le_of_ble_eq_true rfl, Nat.le_of_ble_eq_true rfl⟩) (hW.recv hK) (by omega) rfl rfl hl.1 rfl (lv_room (Nat.le_of_ble_eq_true rfl)) dX1_orderOfRow_39 ⟨by first | exact Nat.le_of_ble_eq_true rfl | omega, by first | exact Nat.le_of_ble_eq_true rfl | omega⟩) hS (by omega) (fun _ _ _ _ _ h => h.elim) (fun locs hq hS => ?_)
      have hl60 := hW.2.2.2.2 r (by omega)
      refine va_mmax hx hb (by rw [hml]; exact hl.1.symm) hown (hts (.methodLink RX1 84 Lib.Math.max.name) (by decide +kernel)) (hts (.static Lib.Math.max.name) (by decide +kernel)) (hts (.initialized "java/lang/Math") (by decide +kernel)) (hts (.code Lib.Math.max.name Lib.Math.max.code 2 (some .int)) (by decide +kernel)) (Nat.le_of_ble_eq_true rfl) (Nat.le_of_ble_eq_true rfl) (Nat.le_of_ble_eq_true rfl) (Nat.le_of_ble_eq_true rfl) dX1_orderOfRow_42 ?_
      refine x_rw (z := nI (max ((T r).length) ((S r).length))) (max_N (by omega) (by omega)) ?_
      refine lv_istore_n (lv' := [(3, .int (nI (max ((T r).length) ((S r).length)))), (0, .ref v), (1, .int (nI r)), (2, .ref o)]) hx hb dX1_orderOfRow_45 rfl hl (by decide) rfl (fun ls hl => ?_)
      refine lv_iconst (v := nI 0) hx hb dX1_orderOfRow_46 (by decide) ?_
      refine lv_istore (lv' := [(4, .int (nI 0)), (3, .int (nI (max ((T r).length) ((S r).length)))), (0, .ref v), (1, .int (nI r)), (2, .ref o)]) hx hb dX1_orderOfRow_47 hl (by decide) rfl (fun ls hl => ?_)
      have loop49 : ∀ (fu : Nat) (i : Nat) (hi : i ≤ max (T r).length (S r).length) (hz : ∀ a, a < i → tcmp L T P S r a = 0) (locs : List Loc) (hS : va_S (gA 0 0 H0.size) H0 H0 locs) (ls : Array Slot), max (T r).length (S r).length - i < fu → lv_has ls 8 [(4, .int (nI i)), (3, .int (nI (max ((T r).length) ((S r).length)))), (2, .ref o), (1, .int (nI r)), (0, .ref v)] → W p l e RMX1_orderOfRow s m args below meth c H0 locs (0 + 0 + 0 + 0 + 0) (0 + 0 + 0 + 0 + 0) (XQ below args s H0 0 0 0 0 (roI H0 (rcmp L T P S r) True) xN) (F0 m 49 ls []) := by
        intro fu49
        induction fu49 with
        | zero => intro i hi hz locs hS  ls hmu; exact absurd hmu (Nat.not_lt_zero _)
        | succ fu49 ih49 =>
          intro i hi hz locs hS  ls hmu49 hl
          refine lv_iload hx hb dX1_orderOfRow_49 (lv_at hl 0 rfl) ?_
          refine lv_iload_n hx hb dX1_orderOfRow_51 rfl (lv_at hl 1 rfl) ?_
          refine x_icmp_ge (tgt := 117) hx hb (by omega) (by omega) dX1_orderOfRow_52 (by decide) (fun c52 => ?_) (fun c52 => ?_)
          · refine lv_iconst (v := nI 0) hx hb dX1_orderOfRow_117 (by decide) ?_
            exact x_iret hx hb hr hlocks h0 hS (by omega) (by omega) dX1_orderOfRow_118 (⟨rfl, by rw [hrc, fz_none (fun a ha => hz a (by omega))]; rfl, trivial⟩)
          · refine lv_aload_n hx hb dX1_orderOfRow_55 rfl (lv_at hl 4 rfl) ?_
            refine lv_iload_n hx hb dX1_orderOfRow_56 rfl (lv_at hl 3 rfl) ?_
            refine lv_iload hx hb dX1_orderOfRow_57 (lv_at hl 0 rfl) ?_
            refine x_goI_ro (x_runV (As := [.int (nI r), .int (nI i)]) (rest := []) ⟨hx, hb, hml, hown, hts⟩ hE h0 hS (c_X1_sizeAt l G v L T r i (by omega) (by omega) H0 hV) (cwV 2 hts gX1_orderOfRow_X1_sizeAt rfl rfl rfl (by decide +kernel) ⟨Nat.le_of_ble_eq_true rfl, Nat.le_of_ble_eq_true rfl⟩) (hV.recv hK) (by omega) rfl rfl hl.1 rfl (lv_room (Nat.le_of_ble_eq_true rfl)) dX1_orderOfRow_59 ⟨by first | exact Nat.le_of_ble_eq_true rfl | omega, by first | exact Nat.le_of_ble_eq_true rfl | omega⟩) hS (by omega) (fun _ _ _ _ _ h => h.elim) (fun locs hq hS => ?_)
            refine lv_istore (lv' := [(5, .int (tsz L T r i)), (4, .int (nI i)), (3, .int (nI (max ((T r).length) ((S r).length)))), (2, .ref o), (1, .int (nI r)), (0, .ref v)]) hx hb dX1_orderOfRow_62 hl (by decide) rfl (fun ls hl => ?_)
            refine lv_aload_n hx hb dX1_orderOfRow_64 rfl (lv_at hl 3 rfl) ?_
            refine lv_iload_n hx hb dX1_orderOfRow_65 rfl (lv_at hl 4 rfl) ?_
            refine lv_iload hx hb dX1_orderOfRow_66 (lv_at hl 1 rfl) ?_
            refine x_goI_ro (x_runV (As := [.int (nI r), .int (nI i)]) (rest := []) ⟨hx, hb, hml, hown, hts⟩ hE h0 hS (c_X1_sizeAt l G o P S r i (by omega) (by omega) H0 hW) (cwV 2 hts gX1_orderOfRow_X1_sizeAt rfl rfl rfl (by decide +kernel) ⟨Nat.le_of_ble_eq_true rfl, Nat.le_of_ble_eq_true rfl⟩) (hW.recv hK) (by omega) rfl rfl hl.1 rfl (lv_room (Nat.le_of_ble_eq_true rfl)) dX1_orderOfRow_68 ⟨by first | exact Nat.le_of_ble_eq_true rfl | omega, by first | exact Nat.le_of_ble_eq_true rfl | omega⟩) hS (by omega) (fun _ _ _ _ _ h => h.elim) (fun locs hq hS => ?_)
            refine lv_istore (lv' := [(6, .int (tsz P S r i)), (5, .int (tsz L T r i)), (4, .int (nI i)), (3, .int (nI (max ((T r).length) ((S r).length)))), (2, .ref o), (1, .int (nI r)), (0, .ref v)]) hx hb dX1_orderOfRow_71 hl (by decide) rfl (fun ls hl => ?_)
            refine lv_iload hx hb dX1_orderOfRow_73 (lv_at hl 1 rfl) ?_
            refine lv_if_ge (tgt := 94) hx hb dX1_orderOfRow_75 (by decide) (fun c75 => ?_) (fun c75 => ?_)
            · have hcm : oS (tsz L T r i) (tsz P S r i) = tcmp L T P S r i := (if_neg (fun q => absurd c75 (Int32.not_le.mpr q.1))).symm
              refine lv_iload hx hb dX1_orderOfRow_94 (lv_at hl 1 rfl) ?_
              refine lv_iload hx hb dX1_orderOfRow_96 (lv_at hl 0 rfl) ?_
              refine x_goI_ro (x_runS (As := [.int (tsz L T r i), .int (tsz P S r i)]) (rest := []) ⟨hx, hb, hml, hown, hts⟩ hE h0 hS (c_X1_orderOfSizes l G (tsz L T r i) (tsz P S r i) H0) (va_cwS 2 hts gX1_orderOfRow_X1_orderOfSizes rfl rfl rfl (by decide +kernel) ⟨Nat.le_of_ble_eq_true rfl, Nat.le_of_ble_eq_true rfl⟩) (by omega) rfl rfl hl.1 rfl (lv_room (Nat.le_of_ble_eq_true rfl)) dX1_orderOfRow_98 ⟨by first | exact Nat.le_of_ble_eq_true rfl | omega, by first | exact Nat.le_of_ble_eq_true rfl | omega⟩) hS (by omega) (fun _ _ _ _ _ h => h.elim) (fun locs hq hS => ?_)
              refine x_rw (z := (tcmp L T P S r i)) hcm ?_
              refine lv_istore (lv' := [(7, .int (tcmp L T P S r i)), (6, .int (tsz P S r i)), (5, .int (tsz L T r i)), (4, .int (nI i)), (3, .int (nI (max ((T r).length) ((S r).length)))), (2, .ref o), (1, .int (nI r)), (0, .ref v)]) hx hb dX1_orderOfRow_101 hl (by decide) rfl (fun ls hl => ?_)
              refine lv_iload hx hb dX1_orderOfRow_103 (lv_at hl 0 rfl) ?_
              refine lv_if_eq (tgt := 111) hx hb dX1_orderOfRow_105 (by decide) (fun c105 => ?_) (fun c105 => ?_)
              · refine lv_iinc (v := nI (i + 1)) (lv' := [(4, .int (nI (i + 1))), (7, .int (tcmp L T P S r i)), (6, .int (tsz P S r i)), (5, .int (tsz L T r i)), (3, .int (nI (max ((T r).length) ((S r).length)))), (2, .ref o), (1, .int (nI r)), (0, .ref v)]) hx hb dX1_orderOfRow_111 hl (k := 3) rfl (nI_1 _) (by decide) rfl (fun ls hl => ?_)
                refine lv_goto (tgt := 49) hx hb dX1_orderOfRow_114 (by decide) ?_
                exact ih49 (i + 1) (by omega) (lt_s hz c105) _ hS ls (by omega) (lv_sub hl [0, 4, 5, 6, 7] rfl)
              · refine lv_iload hx hb dX1_orderOfRow_108 (lv_at hl 0 rfl) ?_
                exact x_iret hx hb hr hlocks h0 hS (by omega) (by omega) dX1_orderOfRow_110 (⟨rfl, by rw [hrc, fz_hit (f := fun i => tcmp L T P S r i) hz c105 (by omega)], trivial⟩)
            · refine lv_iload hx hb dX1_orderOfRow_78 (lv_at hl 0 rfl) ?_
              refine lv_if_ge (tgt := 94) hx hb dX1_orderOfRow_80 (by decide) (fun c80 => ?_) (fun c80 => ?_)
              · have hcm : oS (tsz L T r i) (tsz P S r i) = tcmp L T P S r i := (if_neg (fun q => absurd c80 (Int32.not_le.mpr q.2))).symm
                refine lv_iload hx hb dX1_orderOfRow_94 (lv_at hl 1 rfl) ?_
                refine lv_iload hx hb dX1_orderOfRow_96 (lv_at hl 0 rfl) ?_
                refine x_goI_ro (x_runS (As := [.int (tsz L T r i), .int (tsz P S r i)]) (rest := []) ⟨hx, hb, hml, hown, hts⟩ hE h0 hS (c_X1_orderOfSizes l G (tsz L T r i) (tsz P S r i) H0) (va_cwS 2 hts gX1_orderOfRow_X1_orderOfSizes rfl rfl rfl (by decide +kernel) ⟨Nat.le_of_ble_eq_true rfl, Nat.le_of_ble_eq_true rfl⟩) (by omega) rfl rfl hl.1 rfl (lv_room (Nat.le_of_ble_eq_true rfl)) dX1_orderOfRow_98 ⟨by first | exact Nat.le_of_ble_eq_true rfl | omega, by first | exact Nat.le_of_ble_eq_true rfl | omega⟩) hS (by omega) (fun _ _ _ _ _ h => h.elim) (fun locs hq hS => ?_)
                refine x_rw (z := (tcmp L T P S r i)) hcm ?_
                refine lv_istore (lv' := [(7, .int (tcmp L T P S r i)), (6, .int (tsz P S r i)), (5, .int (tsz L T r i)), (4, .int (nI i)), (3, .int (nI (max ((T r).length) ((S r).length)))), (2, .ref o), (1, .int (nI r)), (0, .ref v)]) hx hb dX1_orderOfRow_101 hl (by decide) rfl (fun ls hl => ?_)
                refine lv_iload hx hb dX1_orderOfRow_103 (lv_at hl 0 rfl) ?_
                refine lv_if_eq (tgt := 111) hx hb dX1_orderOfRow_105 (by decide) (fun c105 => ?_) (fun c105 => ?_)
                · refine lv_iinc (v := nI (i + 1)) (lv' := [(4, .int (nI (i + 1))), (7, .int (tcmp L T P S r i)), (6, .int (tsz P S r i)), (5, .int (tsz L T r i)), (3, .int (nI (max ((T r).length) ((S r).length)))), (2, .ref o), (1, .int (nI r)), (0, .ref v)]) hx hb dX1_orderOfRow_111 hl (k := 3) rfl (nI_1 _) (by decide) rfl (fun ls hl => ?_)
                  refine lv_goto (tgt := 49) hx hb dX1_orderOfRow_114 (by decide) ?_
                  exact ih49 (i + 1) (by omega) (lt_s hz c105) _ hS ls (by omega) (lv_sub hl [0, 4, 5, 6, 7] rfl)
                · refine lv_iload hx hb dX1_orderOfRow_108 (lv_at hl 0 rfl) ?_
                  exact x_iret hx hb hr hlocks h0 hS (by omega) (by omega) dX1_orderOfRow_110 (⟨rfl, by rw [hrc, fz_hit (f := fun i => tcmp L T P S r i) hz c105 (by omega)], trivial⟩)
              · obtain ⟨hi1, hk1⟩ := tsz_neg hJ hr3 (Int32.not_le.mp c75)
                obtain ⟨hi2, hk2⟩ := tsz_neg hJ2 hr3 (Int32.not_le.mp c80)
                have hb1 := hJ.lt hr3 hi1
                have hb2 := hJ2.lt hr3 hi2
                have hcm : ow L P (tg (T r) i).1 ((tg (T r) i).2 - (tg (T r) i).1) (tg (S r) i).1 ((tg (S r) i).2 - (tg (S r) i).1) = tcmp L T P S r i := (if_pos ⟨Int32.not_le.mp c75, Int32.not_le.mp c80⟩).symm
                refine lv_aload_n hx hb dX1_orderOfRow_83 rfl (lv_at hl 6 rfl) ?_
                refine lv_iload_n hx hb dX1_orderOfRow_84 rfl (lv_at hl 5 rfl) ?_
                refine lv_iload hx hb dX1_orderOfRow_85 (lv_at hl 2 rfl) ?_
                refine lv_aload_n hx hb dX1_orderOfRow_87 rfl (lv_at hl 4 rfl) ?_
                refine x_goI_ro (x_runV (As := [.int (nI r), .int (nI i), .ref o]) (rest := []) ⟨hx, hb, hml, hown, hts⟩ hE h0 hS (c_X1_orderOfWords l G v o L P T S r i (tg (T r) i).1 ((tg (T r) i).2 - (tg (T r) i).1) (tg (S r) i).1 ((tg (S r) i).2 - (tg (S r) i).1) hr3 hi1 hi2 hk1 hk2 rfl (by omega) rfl (by omega) (by omega) (by omega) H0 hV hW) (cwV 3 hts gX1_orderOfRow_X1_orderOfWords rfl rfl rfl (by decide +kernel) ⟨Nat.le_of_ble_eq_true rfl, Nat.le_of_ble_eq_true rfl⟩) (hV.recv hK) (by omega) rfl rfl hl.1 rfl (lv_room (Nat.le_of_ble_eq_true rfl)) dX1_orderOfRow_88 ⟨by first | exact Nat.le_of_ble_eq_true rfl | omega, by first | exact Nat.le_of_ble_eq_true rfl | omega⟩) hS (by omega) (fun _ _ _ _ _ h => h.elim) (fun locs hq hS => ?_)
                refine lv_goto (tgt := 101) hx hb dX1_orderOfRow_91 (by decide) ?_
                refine x_rw (z := (tcmp L T P S r i)) hcm ?_
                refine lv_istore (lv' := [(7, .int (tcmp L T P S r i)), (6, .int (tsz P S r i)), (5, .int (tsz L T r i)), (4, .int (nI i)), (3, .int (nI (max ((T r).length) ((S r).length)))), (2, .ref o), (1, .int (nI r)), (0, .ref v)]) hx hb dX1_orderOfRow_101 hl (by decide) rfl (fun ls hl => ?_)
                refine lv_iload hx hb dX1_orderOfRow_103 (lv_at hl 0 rfl) ?_
                refine lv_if_eq (tgt := 111) hx hb dX1_orderOfRow_105 (by decide) (fun c105 => ?_) (fun c105 => ?_)
                · refine lv_iinc (v := nI (i + 1)) (lv' := [(4, .int (nI (i + 1))), (7, .int (tcmp L T P S r i)), (6, .int (tsz P S r i)), (5, .int (tsz L T r i)), (3, .int (nI (max ((T r).length) ((S r).length)))), (2, .ref o), (1, .int (nI r)), (0, .ref v)]) hx hb dX1_orderOfRow_111 hl (k := 3) rfl (nI_1 _) (by decide) rfl (fun ls hl => ?_)
                  refine lv_goto (tgt := 49) hx hb dX1_orderOfRow_114 (by decide) ?_
                  exact ih49 (i + 1) (by omega) (lt_s hz c105) _ hS ls (by omega) (lv_sub hl [0, 4, 5, 6, 7] rfl)
                · refine lv_iload hx hb dX1_orderOfRow_108 (lv_at hl 0 rfl) ?_
                  exact x_iret hx hb hr hlocks h0 hS (by omega) (by omega) dX1_orderOfRow_110 (⟨rfl, by rw [hrc, fz_hit (f := fun i => tcmp L T P S r i) hz c105 (by omega)], trivial⟩)
      exact loop49 _ 0 (by omega) lt_0 _ hS ls (Nat.lt_succ_self _) (lv_sub hl [0, 1, 4, 3, 2] rfl)
    · refine lv_aload_n hx hb dX1_orderOfRow_18 rfl (lv_at hl 0 rfl) ?_
      refine lv_iload_n hx hb dX1_orderOfRow_19 rfl (lv_at hl 1 rfl) ?_
      refine x_goI_ro (x_runV (As := [.int (nI r)]) (rest := []) ⟨hx, hb, hml, hown, hts⟩ hE h0 hS (c_X1_hasRow l G v L T r (by omega) H0 hV) (cwV 1 hts gX1_orderOfRow_X1_hasRow rfl rfl rfl (by decide +kernel) ⟨Nat.le_of_ble_eq_true rfl, Nat.le_of_ble_eq_true rfl⟩) (hV.recv hK) (by omega) rfl rfl hl.1 rfl (lv_room (Nat.le_of_ble_eq_true rfl)) dX1_orderOfRow_20 ⟨by first | exact Nat.le_of_ble_eq_true rfl | omega, by first | exact Nat.le_of_ble_eq_true rfl | omega⟩) hS (by omega) (fun _ _ _ _ _ h => h.elim) (fun locs hq hS => ?_)
      refine x_if_eqB (tgt := 30) hx hb dX1_orderOfRow_23 (by decide) (fun c23 => ?_) (fun c23 => ?_)
      · refine lv_iconst (v := nI 1) hx hb dX1_orderOfRow_30 (by decide) ?_
        exact x_iret hx hb hr hlocks h0 hS (by omega) (by omega) dX1_orderOfRow_31 (⟨rfl, (rcmp_hi c2 c15 c23).symm, trivial⟩)
      · refine lv_iconst (v := (-1)) hx hb dX1_orderOfRow_26 (by decide) ?_
        refine lv_goto (tgt := 31) hx hb dX1_orderOfRow_27 (by decide) ?_
        exact x_iret hx hb hr hlocks h0 hS (by omega) (by omega) dX1_orderOfRow_31 (⟨rfl, (rcmp_lo c2 c15 c23).symm, trivial⟩)

abbrev RMX1_orderTo : Room := { frames := 5, cells := 0, slots := 0, locals := 112 }
set_option maxHeartbeats 4000000 in
set_option maxRecDepth 100000 in
/-- the order of two versions -/
theorem c_X1_orderTo (l : Launch) (G : gG) (v o : Nat) (L P : List Nat) (T S : Tk) (hJ : Jt L T) (hJ2 : Jt P S) (H0 : Heap) (hV : VR G v L T H0) (hW : VR G o P S H0) : XM l yX1_orderTo wsX1_orderTo RMX1_orderTo G [.ref v, .ref o] H0 0 0 0 0 (roI H0 (ordT L T P S) True) xN := by
  refine x_ofW (cc := cX1_orderTo) (maxL := 4) (ret := (some .int)) (by decide) rfl (Nat.le_of_ble_eq_true rfl) ?_
  intro p e s m below meth c hx hb hr hml hown hts hlocks hout hin2 h0 hE ls hl
  replace hown : s.vm.findClass RX1 = some m.cls := hown
  have hK := hE.1
  have hS : va_S (gA 0 0 H0.size) H0 H0 [] := va_S.rf
  generalize hargs : ([.ref v, .ref o] : List Value).toArray = args at hts ⊢
  have hl : lv_has ls 4 [(0, .ref v), (1, .ref o)] := hl
  refine lv_iconst (v := nI 0) hx hb dX1_orderTo_0 (by decide) ?_
  refine lv_istore_n (lv' := [(2, .int (nI 0)), (0, .ref v), (1, .ref o)]) hx hb dX1_orderTo_1 rfl hl (by decide) rfl (fun ls hl => ?_)
  have loop2 : ∀ (fu : Nat) (r : Nat) (hr3 : r ≤ 3) (hz : ∀ a, a < r → rcmp L T P S a = 0) (locs : List Loc) (hS : va_S (gA 0 0 H0.size) H0 H0 locs) (ls : Array Slot), 3 - r < fu → lv_has ls 4 [(2, .int (nI r)), (1, .ref o), (0, .ref v)] → W p l e RMX1_orderTo s m args below meth c H0 locs 0 0 (XQ below args s H0 0 0 0 0 (roI H0 (ordT L T P S) True) xN) (F0 m 2 ls []) := by
    intro fu2
    induction fu2 with
    | zero => intro r hr3 hz locs hS  ls hmu; exact absurd hmu (Nat.not_lt_zero _)
    | succ fu2 ih2 =>
      intro r hr3 hz locs hS  ls hmu2 hl
      refine lv_iload_n hx hb dX1_orderTo_2 rfl (lv_at hl 0 rfl) ?_
      refine lv_iconst (v := nI 3) hx hb dX1_orderTo_3 (by decide) ?_
      refine x_icmp_ge (tgt := 26) hx hb (by omega) (by omega) dX1_orderTo_4 (by decide) (fun c4 => ?_) (fun c4 => ?_)
      · refine lv_iconst (v := nI 0) hx hb dX1_orderTo_26 (by decide) ?_
        exact x_iret hx hb hr hlocks h0 hS (by omega) (by omega) dX1_orderTo_27 (⟨rfl, (fz_none (f := fun r => rcmp L T P S r) (fun a ha => hz a (by omega))).symm, trivial⟩)
      · refine lv_aload_n hx hb dX1_orderTo_7 rfl (lv_at hl 2 rfl) ?_
        refine lv_iload_n hx hb dX1_orderTo_8 rfl (lv_at hl 0 rfl) ?_
        refine lv_aload_n hx hb dX1_orderTo_9 rfl (lv_at hl 1 rfl) ?_
        refine x_goI_ro (x_runV (As := [.int (nI r), .ref o]) (rest := []) ⟨hx, hb, hml, hown, hts⟩ hE h0 hS (c_X1_orderOfRow l G v o L P T S r (by omega) hJ hJ2 H0 hV hW) (cwV 2 hts gX1_orderTo_X1_orderOfRow rfl rfl rfl (by decide +kernel) ⟨Nat.le_of_ble_eq_true rfl, Nat.le_of_ble_eq_true rfl⟩) (hV.recv hK) (by omega) rfl rfl hl.1 rfl (lv_room (Nat.le_of_ble_eq_true rfl)) dX1_orderTo_10 ⟨by first | exact Nat.le_of_ble_eq_true rfl | omega, by first | exact Nat.le_of_ble_eq_true rfl | omega⟩) hS (by omega) (fun _ _ _ _ _ h => h.elim) (fun locs hq hS => ?_)
        refine lv_istore_n (lv' := [(3, .int (rcmp L T P S r)), (2, .int (nI r)), (1, .ref o), (0, .ref v)]) hx hb dX1_orderTo_13 rfl hl (by decide) rfl (fun ls hl => ?_)
        refine lv_iload_n hx hb dX1_orderTo_14 rfl (lv_at hl 0 rfl) ?_
        refine lv_if_eq (tgt := 20) hx hb dX1_orderTo_15 (by decide) (fun c15 => ?_) (fun c15 => ?_)
        · refine lv_iinc (v := nI (r + 1)) (lv' := [(2, .int (nI (r + 1))), (3, .int (rcmp L T P S r)), (1, .ref o), (0, .ref v)]) hx hb dX1_orderTo_20 hl (k := 1) rfl (nI_1 _) (by decide) rfl (fun ls hl => ?_)
          refine lv_goto (tgt := 2) hx hb dX1_orderTo_23 (by decide) ?_
          exact ih2 (r + 1) (by omega) (lt_s hz c15) _ hS ls (by omega) (lv_sub hl [0, 2, 3] rfl)
        · refine lv_iload_n hx hb dX1_orderTo_18 rfl (lv_at hl 0 rfl) ?_
          exact x_iret hx hb hr hlocks h0 hS (by omega) (by omega) dX1_orderTo_19 (⟨rfl, (fz_hit (f := fun r => rcmp L T P S r) hz c15 (by omega)).symm, trivial⟩)
  exact loop2 _ 0 (by omega) lt_0 _ hS ls (Nat.lt_succ_self _) (lv_sub hl [0, 2, 1] rfl)

abbrev RMX1_tellingRow : Room := { frames := 5, cells := 0, slots := 0, locals := 112 }
set_option maxHeartbeats 4000000 in
set_option maxRecDepth 100000 in
/-- the row that tells -/
theorem c_X1_tellingRow (l : Launch) (G : gG) (v o : Nat) (L P : List Nat) (T S : Tk) (hJ : Jt L T) (hJ2 : Jt P S) (H0 : Heap) (hV : VR G v L T H0) (hW : VR G o P S H0) : XM l yX1_tellingRow wsX1_tellingRow RMX1_tellingRow G [.ref v, .ref o] H0 0 0 0 0 (roI H0 (tellT L T P S) True) xN := by
  refine x_ofW (cc := cX1_tellingRow) (maxL := 3) (ret := (some .int)) (by decide) rfl (Nat.le_of_ble_eq_true rfl) ?_
  intro p e s m below meth c hx hb hr hml hown hts hlocks hout hin2 h0 hE ls hl
  replace hown : s.vm.findClass RX1 = some m.cls := hown
  have hK := hE.1
  have hS : va_S (gA 0 0 H0.size) H0 H0 [] := va_S.rf
  generalize hargs : ([.ref v, .ref o] : List Value).toArray = args at hts ⊢
  have hl : lv_has ls 3 [(0, .ref v), (1, .ref o)] := hl
  refine lv_iconst (v := nI 0) hx hb dX1_tellingRow_0 (by decide) ?_
  refine lv_istore_n (lv' := [(2, .int (nI 0)), (0, .ref v), (1, .ref o)]) hx hb dX1_tellingRow_1 rfl hl (by decide) rfl (fun ls hl => ?_)
  have loop2 : ∀ (fu : Nat) (r : Nat) (hr3 : r ≤ 3) (hz : ∀ a, a < r → rcmp L T P S a = 0) (locs : List Loc) (hS : va_S (gA 0 0 H0.size) H0 H0 locs) (ls : Array Slot), 3 - r < fu → lv_has ls 3 [(2, .int (nI r)), (1, .ref o), (0, .ref v)] → W p l e RMX1_tellingRow s m args below meth c H0 locs 0 0 (XQ below args s H0 0 0 0 0 (roI H0 (tellT L T P S) True) xN) (F0 m 2 ls []) := by
    intro fu2
    induction fu2 with
    | zero => intro r hr3 hz locs hS  ls hmu; exact absurd hmu (Nat.not_lt_zero _)
    | succ fu2 ih2 =>
      intro r hr3 hz locs hS  ls hmu2 hl
      refine lv_iload_n hx hb dX1_tellingRow_2 rfl (lv_at hl 0 rfl) ?_
      refine lv_iconst (v := nI 3) hx hb dX1_tellingRow_3 (by decide) ?_
      refine x_icmp_ge (tgt := 24) hx hb (by omega) (by omega) dX1_tellingRow_4 (by decide) (fun c4 => ?_) (fun c4 => ?_)
      · refine lv_iconst (v := (-1)) hx hb dX1_tellingRow_24 (by decide) ?_
        exact x_iret hx hb hr hlocks h0 hS (by omega) (by omega) dX1_tellingRow_25 (⟨rfl, (tellT_none (fun a ha => hz a (by omega))).symm, trivial⟩)
      · refine lv_aload_n hx hb dX1_tellingRow_7 rfl (lv_at hl 2 rfl) ?_
        refine lv_iload_n hx hb dX1_tellingRow_8 rfl (lv_at hl 0 rfl) ?_
        refine lv_aload_n hx hb dX1_tellingRow_9 rfl (lv_at hl 1 rfl) ?_
        refine x_goI_ro (x_runV (As := [.int (nI r), .ref o]) (rest := []) ⟨hx, hb, hml, hown, hts⟩ hE h0 hS (c_X1_orderOfRow l G v o L P T S r (by omega) hJ hJ2 H0 hV hW) (cwV 2 hts gX1_tellingRow_X1_orderOfRow rfl rfl rfl (by decide +kernel) ⟨Nat.le_of_ble_eq_true rfl, Nat.le_of_ble_eq_true rfl⟩) (hV.recv hK) (by omega) rfl rfl hl.1 rfl (lv_room (Nat.le_of_ble_eq_true rfl)) dX1_tellingRow_10 ⟨by first | exact Nat.le_of_ble_eq_true rfl | omega, by first | exact Nat.le_of_ble_eq_true rfl | omega⟩) hS (by omega) (fun _ _ _ _ _ h => h.elim) (fun locs hq hS => ?_)
        refine lv_if_eq (tgt := 18) hx hb dX1_tellingRow_13 (by decide) (fun c13 => ?_) (fun c13 => ?_)
        · refine lv_iinc (v := nI (r + 1)) (lv' := [(2, .int (nI (r + 1))), (1, .ref o), (0, .ref v)]) hx hb dX1_tellingRow_18 hl (k := 0) rfl (nI_1 _) (by decide) rfl (fun ls hl => ?_)
          refine lv_goto (tgt := 2) hx hb dX1_tellingRow_21 (by decide) ?_
          exact ih2 (r + 1) (by omega) (lt_s hz c13) _ hS ls (by omega) (lv_sub hl [0, 1, 2] rfl)
        · refine lv_iload_n hx hb dX1_tellingRow_16 rfl (lv_at hl 0 rfl) ?_
          exact x_iret hx hb hr hlocks h0 hS (by omega) (by omega) dX1_tellingRow_17 (⟨rfl, (tellT_hit (by omega) hz c13).symm, trivial⟩)
  exact loop2 _ 0 (by omega) lt_0 _ hS ls (Nat.lt_succ_self _) (lv_sub hl [0, 2, 1] rfl)
