abbrev RMX2_checkNumber : Room := { frames := 6, cells := 1, slots := 6, locals := 100 }
set_option maxHeartbeats 4000000 in
set_option maxRecDepth 100000 in
theorem c_X2_checkNumber (l : Launch) (G : gG) (x a b : Int32) (H0 : Heap)  : XM l yX2_checkNumber wsX2_checkNumber RMX2_checkNumber G [.int x, .int a, .int b] H0 0 0 1 6 (roV H0 (a ≤ x ∧ x ≤ b)) (fun E _ => E = xIA ∧ ¬ (a ≤ x ∧ x ≤ b)) := by
  refine x_ofW (cc := cX2_checkNumber) (maxL := 3) (ret := none) (by decide) rfl (Nat.le_of_ble_eq_true rfl) ?_
  intro p e s m below meth c hx hb hr hml hown hts hlocks hout hin2 h0 hE ls hl
  replace hown : s.vm.findClass RX2 = some m.cls := hown
  have hK := hE.1
  have hS : va_S (gA 0 0 H0.size) H0 H0 [] := va_S.rf
  generalize hargs : ([.int x, .int a, .int b] : List Value).toArray = args at hts ⊢
  have hw0 := hts (.classLink RX2 73 xIA) (by decide +kernel)
  have hw1 := hts (.initialized xIA) (by decide +kernel)
  have hl : lv_has ls 3 [(0, .int x), (1, .int a), (2, .int b)] := hl
  refine lv_iload_n hx hb dX2_checkNumber_0 rfl (lv_at hl 0 rfl) ?_
  refine lv_iload_n hx hb dX2_checkNumber_1 rfl (lv_at hl 1 rfl) ?_
  refine lv_icmp_lt (tgt := 10) hx hb dX2_checkNumber_2 (by decide) (fun c2 => ?_) (fun c2 => ?_)
  · exact x_throw (cls := xIA) (text := "the number is out of range") hx hb hE h0 hS hown hlocks hout (by rw [hml]; exact hl.1) (by decide) hw0 hw1 ot_IA (by decide +kernel) nb_IA (fun w h => by first | exact hts w (List.mem_cons_of_mem _ (List.mem_append_right _ h)) | exact hts w (List.mem_cons_of_mem _ (List.mem_append_left _ (List.mem_append_right _ h))) | exact hts w (List.mem_cons_of_mem _ (List.mem_append_left _ (List.mem_append_left _ (List.mem_append_right _ h))))) dX2_checkNumber_10 dX2_checkNumber_13 dX2_checkNumber_14 dX2_checkNumber_16 dX2_checkNumber_19 (Nat.le_of_ble_eq_true rfl) (Nat.le_of_ble_eq_true rfl) (Nat.le_of_ble_eq_true rfl) (Nat.le_of_ble_eq_true rfl) (by omega) (by omega) (fun H1 hF => ⟨rfl, fun h => by first | exact absurd h.1 (Int32.not_le.mpr c2) | exact c7 h.2⟩)
  · refine lv_iload_n hx hb dX2_checkNumber_5 rfl (lv_at hl 0 rfl) ?_
    refine lv_iload_n hx hb dX2_checkNumber_6 rfl (lv_at hl 2 rfl) ?_
    refine lv_icmp_le (tgt := 20) hx hb dX2_checkNumber_7 (by decide) (fun c7 => ?_) (fun c7 => ?_)
    · exact x_vret hx hb hr hlocks h0 hS (by omega) (by omega) dX2_checkNumber_20 (⟨rfl, Int32.not_lt.mp c2, c7⟩)
    · exact x_throw (cls := xIA) (text := "the number is out of range") hx hb hE h0 hS hown hlocks hout (by rw [hml]; exact hl.1) (by decide) hw0 hw1 ot_IA (by decide +kernel) nb_IA (fun w h => by first | exact hts w (List.mem_cons_of_mem _ (List.mem_append_right _ h)) | exact hts w (List.mem_cons_of_mem _ (List.mem_append_left _ (List.mem_append_right _ h))) | exact hts w (List.mem_cons_of_mem _ (List.mem_append_left _ (List.mem_append_left _ (List.mem_append_right _ h))))) dX2_checkNumber_10 dX2_checkNumber_13 dX2_checkNumber_14 dX2_checkNumber_16 dX2_checkNumber_19 (Nat.le_of_ble_eq_true rfl) (Nat.le_of_ble_eq_true rfl) (Nat.le_of_ble_eq_true rfl) (Nat.le_of_ble_eq_true rfl) (by omega) (by omega) (fun H1 hF => ⟨rfl, fun h => by first | exact absurd h.1 (Int32.not_le.mpr c2) | exact c7 h.2⟩)

abbrev RMX2_checkZeros : Room := { frames := 6, cells := 1, slots := 6, locals := 100 }
set_option maxHeartbeats 4000000 in
set_option maxRecDepth 100000 in
theorem c_X2_checkZeros (l : Launch) (G : gG) (x : Int32) (H0 : Heap)  : XM l yX2_checkZeros wsX2_checkZeros RMX2_checkZeros G [.int x] H0 0 0 1 6 (roV H0 (okN 4 x)) (fun E _ => E = xIA ∧ ¬ okN 4 x) := by
  refine x_ofW (cc := cX2_checkZeros) (maxL := 1) (ret := none) (by decide) rfl (Nat.le_of_ble_eq_true rfl) ?_
  intro p e s m below meth c hx hb hr hml hown hts hlocks hout hin2 h0 hE ls hl
  replace hown : s.vm.findClass RX2 = some m.cls := hown
  have hK := hE.1
  have hS : va_S (gA 0 0 H0.size) H0 H0 [] := va_S.rf
  generalize hargs : ([.int x] : List Value).toArray = args at hts ⊢
  have hw0 := hts (.classLink RX2 73 xIA) (by decide +kernel)
  have hw1 := hts (.initialized xIA) (by decide +kernel)
  have hl : lv_has ls 1 [(0, .int x)] := hl
  refine lv_iload_n hx hb dX2_checkZeros_0 rfl (lv_at hl 0 rfl) ?_
  refine lv_if_lt (tgt := 9) hx hb dX2_checkZeros_1 (by decide) (fun c1 => ?_) (fun c1 => ?_)
  · exact x_throw (cls := xIA) (text := "0 to 3 zeros go ahead of the digits") hx hb hE h0 hS hown hlocks hout (by rw [hml]; exact hl.1) (by decide) hw0 hw1 ot_IA (by decide +kernel) nb_IA (fun w h => by first | exact hts w (List.mem_cons_of_mem _ (List.mem_append_right _ h)) | exact hts w (List.mem_cons_of_mem _ (List.mem_append_left _ (List.mem_append_right _ h))) | exact hts w (List.mem_cons_of_mem _ (List.mem_append_left _ (List.mem_append_left _ (List.mem_append_right _ h))))) dX2_checkZeros_9 dX2_checkZeros_12 dX2_checkZeros_13 dX2_checkZeros_15 dX2_checkZeros_18 (Nat.le_of_ble_eq_true rfl) (Nat.le_of_ble_eq_true rfl) (Nat.le_of_ble_eq_true rfl) (Nat.le_of_ble_eq_true rfl) (by omega) (by omega) (fun H1 hF => ⟨rfl, fun h => by have h2 := (okN_le (n := 3) (by decide)).mp h; first | exact h2.1 c1 | exact c6 h2.2⟩)
  · refine lv_iload_n hx hb dX2_checkZeros_4 rfl (lv_at hl 0 rfl) ?_
    refine lv_iconst (v := nI 3) hx hb dX2_checkZeros_5 (by decide) ?_
    refine lv_icmp_le (tgt := 19) hx hb dX2_checkZeros_6 (by decide) (fun c6 => ?_) (fun c6 => ?_)
    · exact x_vret hx hb hr hlocks h0 hS (by omega) (by omega) dX2_checkZeros_19 (⟨rfl, (okN_le (n := 3) (by decide)).mpr ⟨c1, c6⟩⟩)
    · exact x_throw (cls := xIA) (text := "0 to 3 zeros go ahead of the digits") hx hb hE h0 hS hown hlocks hout (by rw [hml]; exact hl.1) (by decide) hw0 hw1 ot_IA (by decide +kernel) nb_IA (fun w h => by first | exact hts w (List.mem_cons_of_mem _ (List.mem_append_right _ h)) | exact hts w (List.mem_cons_of_mem _ (List.mem_append_left _ (List.mem_append_right _ h))) | exact hts w (List.mem_cons_of_mem _ (List.mem_append_left _ (List.mem_append_left _ (List.mem_append_right _ h))))) dX2_checkZeros_9 dX2_checkZeros_12 dX2_checkZeros_13 dX2_checkZeros_15 dX2_checkZeros_18 (Nat.le_of_ble_eq_true rfl) (Nat.le_of_ble_eq_true rfl) (Nat.le_of_ble_eq_true rfl) (Nat.le_of_ble_eq_true rfl) (by omega) (by omega) (fun H1 hF => ⟨rfl, fun h => by have h2 := (okN_le (n := 3) (by decide)).mp h; first | exact h2.1 c1 | exact c6 h2.2⟩)

abbrev RMX2_checkWay : Room := { frames := 6, cells := 1, slots := 6, locals := 100 }
set_option maxHeartbeats 4000000 in
set_option maxRecDepth 100000 in
theorem c_X2_checkWay (l : Launch) (G : gG) (ch : Nat) (hch : ch < 65536) (H0 : Heap)  : XM l yX2_checkWay wsX2_checkWay RMX2_checkWay G [.int (nI ch)] H0 0 0 1 6 (roV H0 (isWay ch)) (fun E _ => E = xIA ∧ ¬ isWay ch) := by
  refine x_ofW (cc := cX2_checkWay) (maxL := 1) (ret := none) (by decide) rfl (Nat.le_of_ble_eq_true rfl) ?_
  intro p e s m below meth c hx hb hr hml hown hts hlocks hout hin2 h0 hE ls hl
  replace hown : s.vm.findClass RX2 = some m.cls := hown
  have hK := hE.1
  have hS : va_S (gA 0 0 H0.size) H0 H0 [] := va_S.rf
  generalize hargs : ([.int (nI ch)] : List Value).toArray = args at hts ⊢
  have hw0 := hts (.classLink RX2 73 xIA) (by decide +kernel)
  have hw1 := hts (.initialized xIA) (by decide +kernel)
  have hl : lv_has ls 1 [(0, .int (nI ch))] := hl
  refine lv_iload_n hx hb dX2_checkWay_0 rfl (lv_at hl 0 rfl) ?_
  refine lv_bipush (v := nI 110) hx hb dX2_checkWay_1 (by decide) ?_
  refine x_icmp_eq (tgt := 34) hx hb (by omega) (by omega) dX2_checkWay_3 (by decide) (fun c3 => ?_) (fun c3 => ?_)
  · exact x_vret hx hb hr hlocks h0 hS (by omega) (by omega) dX2_checkWay_34 (⟨rfl, by unfold isWay; omega⟩)
  · refine lv_iload_n hx hb dX2_checkWay_6 rfl (lv_at hl 0 rfl) ?_
    refine lv_bipush (v := nI 46) hx hb dX2_checkWay_7 (by decide) ?_
    refine x_icmp_eq (tgt := 34) hx hb (by omega) (by omega) dX2_checkWay_9 (by decide) (fun c9 => ?_) (fun c9 => ?_)
    · exact x_vret hx hb hr hlocks h0 hS (by omega) (by omega) dX2_checkWay_34 (⟨rfl, by unfold isWay; omega⟩)
    · refine lv_iload_n hx hb dX2_checkWay_12 rfl (lv_at hl 0 rfl) ?_
      refine lv_bipush (v := nI 45) hx hb dX2_checkWay_13 (by decide) ?_
      refine x_icmp_eq (tgt := 34) hx hb (by omega) (by omega) dX2_checkWay_15 (by decide) (fun c15 => ?_) (fun c15 => ?_)
      · exact x_vret hx hb hr hlocks h0 hS (by omega) (by omega) dX2_checkWay_34 (⟨rfl, by unfold isWay; omega⟩)
      · refine lv_iload_n hx hb dX2_checkWay_18 rfl (lv_at hl 0 rfl) ?_
        refine lv_bipush (v := nI 43) hx hb dX2_checkWay_19 (by decide) ?_
        refine x_icmp_eq (tgt := 34) hx hb (by omega) (by omega) dX2_checkWay_21 (by decide) (fun c21 => ?_) (fun c21 => ?_)
        · exact x_vret hx hb hr hlocks h0 hS (by omega) (by omega) dX2_checkWay_34 (⟨rfl, by unfold isWay; omega⟩)
        · exact x_throw (cls := xIA) (text := "there is no such way to join") hx hb hE h0 hS hown hlocks hout (by rw [hml]; exact hl.1) (by decide) hw0 hw1 ot_IA (by decide +kernel) nb_IA (fun w h => by first | exact hts w (List.mem_cons_of_mem _ (List.mem_append_right _ h)) | exact hts w (List.mem_cons_of_mem _ (List.mem_append_left _ (List.mem_append_right _ h))) | exact hts w (List.mem_cons_of_mem _ (List.mem_append_left _ (List.mem_append_left _ (List.mem_append_right _ h))))) dX2_checkWay_24 dX2_checkWay_27 dX2_checkWay_28 dX2_checkWay_30 dX2_checkWay_33 (Nat.le_of_ble_eq_true rfl) (Nat.le_of_ble_eq_true rfl) (Nat.le_of_ble_eq_true rfl) (Nat.le_of_ble_eq_true rfl) (by omega) (by omega) (fun H1 hF => ⟨rfl, by unfold isWay; omega⟩)

abbrev RMX2_checkRoom : Room := { frames := 6, cells := 1, slots := 6, locals := 100 }
set_option maxHeartbeats 4000000 in
set_option maxRecDepth 100000 in
theorem c_X2_checkRoom (l : Launch) (G : gG) (a : Nat) (L : List Nat) (n : Nat) (hn31 : n < 2147483648) (H0 : Heap) (hT : Tx G a L H0) : XM l yX2_checkRoom wsX2_checkRoom RMX2_checkRoom G [.ref a, .int (nI n)] H0 0 0 1 6 (roV H0 (L.length + n ≤ 60)) (fun E _ => E = xIS ∧ ¬ (L.length + n ≤ 60)) := by
  refine x_ofW (cc := cX2_checkRoom) (maxL := 2) (ret := none) (by decide) rfl (Nat.le_of_ble_eq_true rfl) ?_
  intro p e s m below meth c hx hb hr hml hown hts hlocks hout hin2 h0 hE ls hl
  replace hown : s.vm.findClass RX2 = some m.cls := hown
  have hK := hE.1
  have hS : va_S (gA 0 0 H0.size) H0 H0 [] := va_S.rf
  generalize hargs : ([.ref a, .int (nI n)] : List Value).toArray = args at hts ⊢
  have hw0 := hts (.classLink RX2 160 xIS) (by decide +kernel)
  have hw1 := hts (.initialized xIS) (by decide +kernel)
  have hl : lv_has ls 2 [(0, .ref a), (1, .int (nI n))] := hl
  have hTn := hT.le
  refine lv_iload_n hx hb dX2_checkRoom_0 rfl (lv_at hl 1 rfl) ?_
  refine lv_bipush (v := nI 60) hx hb dX2_checkRoom_1 (by decide) ?_
  refine lv_aload_n hx hb dX2_checkRoom_3 rfl (lv_at hl 0 rfl) ?_
  refine x_goI_ro (x_runV (As := []) (rest := [.int (nI 60), .int (nI n)]) ⟨hx, hb, hml, hown, hts⟩ hE h0 hS (c_X0_length l G a L H0 hT) (cwV 0 hts gX2_checkRoom_X0_length rfl rfl rfl (by decide +kernel) ⟨Nat.le_of_ble_eq_true rfl, Nat.le_of_ble_eq_true rfl⟩) (hT.recv hK) (by omega) rfl rfl hl.1 rfl (lv_room (Nat.le_of_ble_eq_true rfl)) dX2_checkRoom_4 ⟨by first | exact Nat.le_of_ble_eq_true rfl | omega, by first | exact Nat.le_of_ble_eq_true rfl | omega⟩) hS (by omega) (fun _ _ _ _ _ h => h.elim) (fun locs hq hS => ?_)
  refine lv_isub hx hb dX2_checkRoom_7 ?_
  refine x_rw (z := nI (60 - L.length)) (pk_sub (by omega)) ?_
  refine x_icmp_le (tgt := 21) hx hb (by omega) (by omega) dX2_checkRoom_8 (by decide) (fun c8 => ?_) (fun c8 => ?_)
  · exact x_vret hx hb hr hlocks h0 hS (by omega) (by omega) dX2_checkRoom_21 (⟨rfl, by omega⟩)
  · exact x_throw (cls := xIS) (text := "a text has at most 60 signs") hx hb hE h0 hS hown hlocks hout (by rw [hml]; exact hl.1) (by decide) hw0 hw1 ot_IS (by decide +kernel) nb_IS (fun w h => by first | exact hts w (List.mem_cons_of_mem _ (List.mem_append_right _ h)) | exact hts w (List.mem_cons_of_mem _ (List.mem_append_left _ (List.mem_append_right _ h))) | exact hts w (List.mem_cons_of_mem _ (List.mem_append_left _ (List.mem_append_left _ (List.mem_append_right _ h))))) dX2_checkRoom_11 dX2_checkRoom_14 dX2_checkRoom_15 dX2_checkRoom_17 dX2_checkRoom_20 (Nat.le_of_ble_eq_true rfl) (Nat.le_of_ble_eq_true rfl) (Nat.le_of_ble_eq_true rfl) (Nat.le_of_ble_eq_true rfl) (by omega) (by omega) (fun H1 hF => ⟨rfl, by omega⟩)

abbrev RMX2_checkPlace : Room := { frames := 6, cells := 1, slots := 6, locals := 100 }
set_option maxHeartbeats 4000000 in
set_option maxRecDepth 100000 in
theorem c_X2_checkPlace (l : Launch) (G : gG) (a : Nat) (L : List Nat) (x : Int32) (H0 : Heap) (hT : Tx G a L H0) : XM l yX2_checkPlace wsX2_checkPlace RMX2_checkPlace G [.ref a, .int x] H0 0 0 1 6 (roV H0 (okN L.length x)) (fun E _ => E = xIO ∧ ¬ okN L.length x) := by
  refine x_ofW (cc := cX2_checkPlace) (maxL := 2) (ret := none) (by decide) rfl (Nat.le_of_ble_eq_true rfl) ?_
  intro p e s m below meth c hx hb hr hml hown hts hlocks hout hin2 h0 hE ls hl
  replace hown : s.vm.findClass RX2 = some m.cls := hown
  have hK := hE.1
  have hS : va_S (gA 0 0 H0.size) H0 H0 [] := va_S.rf
  generalize hargs : ([.ref a, .int x] : List Value).toArray = args at hts ⊢
  have hw0 := hts (.classLink RX2 126 xIO) (by decide +kernel)
  have hw1 := hts (.initialized xIO) (by decide +kernel)
  have hl : lv_has ls 2 [(0, .ref a), (1, .int x)] := hl
  have hTn := hT.le
  refine lv_iload_n hx hb dX2_checkPlace_0 rfl (lv_at hl 1 rfl) ?_
  refine lv_if_lt (tgt := 12) hx hb dX2_checkPlace_1 (by decide) (fun c1 => ?_) (fun c1 => ?_)
  · exact x_throw (cls := xIO) (text := "the text has no such place") hx hb hE h0 hS hown hlocks hout (by rw [hml]; exact hl.1) (by decide) hw0 hw1 ot_IO (by decide +kernel) nb_IO (fun w h => by first | exact hts w (List.mem_cons_of_mem _ (List.mem_append_right _ h)) | exact hts w (List.mem_cons_of_mem _ (List.mem_append_left _ (List.mem_append_right _ h))) | exact hts w (List.mem_cons_of_mem _ (List.mem_append_left _ (List.mem_append_left _ (List.mem_append_right _ h))))) dX2_checkPlace_12 dX2_checkPlace_15 dX2_checkPlace_16 dX2_checkPlace_18 dX2_checkPlace_21 (Nat.le_of_ble_eq_true rfl) (Nat.le_of_ble_eq_true rfl) (Nat.le_of_ble_eq_true rfl) (Nat.le_of_ble_eq_true rfl) (by omega) (by omega) (fun H1 hF => ⟨rfl, fun h => by have h2 := (okN_iff (by omega)).mp h; first | exact h2.1 c1 | exact c9 h2.2⟩)
  · refine lv_iload_n hx hb dX2_checkPlace_4 rfl (lv_at hl 1 rfl) ?_
    refine lv_aload_n hx hb dX2_checkPlace_5 rfl (lv_at hl 0 rfl) ?_
    refine x_goI_ro (x_runV (As := []) (rest := [.int x]) ⟨hx, hb, hml, hown, hts⟩ hE h0 hS (c_X0_length l G a L H0 hT) (cwV 0 hts gX2_checkPlace_X0_length rfl rfl rfl (by decide +kernel) ⟨Nat.le_of_ble_eq_true rfl, Nat.le_of_ble_eq_true rfl⟩) (hT.recv hK) (by omega) rfl rfl hl.1 rfl (lv_room (Nat.le_of_ble_eq_true rfl)) dX2_checkPlace_6 ⟨by first | exact Nat.le_of_ble_eq_true rfl | omega, by first | exact Nat.le_of_ble_eq_true rfl | omega⟩) hS (by omega) (fun _ _ _ _ _ h => h.elim) (fun locs hq hS => ?_)
    refine lv_icmp_lt (tgt := 22) hx hb dX2_checkPlace_9 (by decide) (fun c9 => ?_) (fun c9 => ?_)
    · exact x_vret hx hb hr hlocks h0 hS (by omega) (by omega) dX2_checkPlace_22 (⟨rfl, (okN_iff (by omega)).mpr ⟨c1, c9⟩⟩)
    · exact x_throw (cls := xIO) (text := "the text has no such place") hx hb hE h0 hS hown hlocks hout (by rw [hml]; exact hl.1) (by decide) hw0 hw1 ot_IO (by decide +kernel) nb_IO (fun w h => by first | exact hts w (List.mem_cons_of_mem _ (List.mem_append_right _ h)) | exact hts w (List.mem_cons_of_mem _ (List.mem_append_left _ (List.mem_append_right _ h))) | exact hts w (List.mem_cons_of_mem _ (List.mem_append_left _ (List.mem_append_left _ (List.mem_append_right _ h))))) dX2_checkPlace_12 dX2_checkPlace_15 dX2_checkPlace_16 dX2_checkPlace_18 dX2_checkPlace_21 (Nat.le_of_ble_eq_true rfl) (Nat.le_of_ble_eq_true rfl) (Nat.le_of_ble_eq_true rfl) (Nat.le_of_ble_eq_true rfl) (by omega) (by omega) (fun H1 hF => ⟨rfl, fun h => by have h2 := (okN_iff (by omega)).mp h; first | exact h2.1 c1 | exact c9 h2.2⟩)

abbrev RMX2_checkSlot : Room := { frames := 6, cells := 1, slots := 6, locals := 100 }
set_option maxHeartbeats 4000000 in
set_option maxRecDepth 100000 in
theorem c_X2_checkSlot (l : Launch) (G : gG) (x : Int32) (H0 : Heap)  : XM l yX2_checkSlot wsX2_checkSlot RMX2_checkSlot G [.int x] H0 0 0 1 6 (roV H0 (okN 8 x)) (fun E _ => E = xIO ∧ ¬ okN 8 x) := by
  refine x_ofW (cc := cX2_checkSlot) (maxL := 1) (ret := none) (by decide) rfl (Nat.le_of_ble_eq_true rfl) ?_
  intro p e s m below meth c hx hb hr hml hown hts hlocks hout hin2 h0 hE ls hl
  replace hown : s.vm.findClass RX2 = some m.cls := hown
  have hK := hE.1
  have hS : va_S (gA 0 0 H0.size) H0 H0 [] := va_S.rf
  generalize hargs : ([.int x] : List Value).toArray = args at hts ⊢
  have hw0 := hts (.classLink RX2 126 xIO) (by decide +kernel)
  have hw1 := hts (.initialized xIO) (by decide +kernel)
  have hl : lv_has ls 1 [(0, .int x)] := hl
  refine lv_iload_n hx hb dX2_checkSlot_0 rfl (lv_at hl 0 rfl) ?_
  refine lv_if_lt (tgt := 10) hx hb dX2_checkSlot_1 (by decide) (fun c1 => ?_) (fun c1 => ?_)
  · exact x_throw (cls := xIO) (text := "the slots are 0 to 7") hx hb hE h0 hS hown hlocks hout (by rw [hml]; exact hl.1) (by decide) hw0 hw1 ot_IO (by decide +kernel) nb_IO (fun w h => by first | exact hts w (List.mem_cons_of_mem _ (List.mem_append_right _ h)) | exact hts w (List.mem_cons_of_mem _ (List.mem_append_left _ (List.mem_append_right _ h))) | exact hts w (List.mem_cons_of_mem _ (List.mem_append_left _ (List.mem_append_left _ (List.mem_append_right _ h))))) dX2_checkSlot_10 dX2_checkSlot_13 dX2_checkSlot_14 dX2_checkSlot_16 dX2_checkSlot_19 (Nat.le_of_ble_eq_true rfl) (Nat.le_of_ble_eq_true rfl) (Nat.le_of_ble_eq_true rfl) (Nat.le_of_ble_eq_true rfl) (by omega) (by omega) (fun H1 hF => ⟨rfl, fun h => by have h2 := (okN_iff (by decide)).mp h; first | exact h2.1 c1 | exact c7 h2.2⟩)
  · refine lv_iload_n hx hb dX2_checkSlot_4 rfl (lv_at hl 0 rfl) ?_
    refine lv_bipush (v := nI 8) hx hb dX2_checkSlot_5 (by decide) ?_
    refine lv_icmp_lt (tgt := 20) hx hb dX2_checkSlot_7 (by decide) (fun c7 => ?_) (fun c7 => ?_)
    · exact x_vret hx hb hr hlocks h0 hS (by omega) (by omega) dX2_checkSlot_20 (⟨rfl, (okN_iff (by decide)).mpr ⟨c1, c7⟩⟩)
    · exact x_throw (cls := xIO) (text := "the slots are 0 to 7") hx hb hE h0 hS hown hlocks hout (by rw [hml]; exact hl.1) (by decide) hw0 hw1 ot_IO (by decide +kernel) nb_IO (fun w h => by first | exact hts w (List.mem_cons_of_mem _ (List.mem_append_right _ h)) | exact hts w (List.mem_cons_of_mem _ (List.mem_append_left _ (List.mem_append_right _ h))) | exact hts w (List.mem_cons_of_mem _ (List.mem_append_left _ (List.mem_append_left _ (List.mem_append_right _ h))))) dX2_checkSlot_10 dX2_checkSlot_13 dX2_checkSlot_14 dX2_checkSlot_16 dX2_checkSlot_19 (Nat.le_of_ble_eq_true rfl) (Nat.le_of_ble_eq_true rfl) (Nat.le_of_ble_eq_true rfl) (Nat.le_of_ble_eq_true rfl) (by omega) (by omega) (fun H1 hF => ⟨rfl, fun h => by have h2 := (okN_iff (by decide)).mp h; first | exact h2.1 c1 | exact c7 h2.2⟩)

abbrev RMX2_checkSlot0 : Room := { frames := 1, cells := 0, slots := 0, locals := 12 }
set_option maxHeartbeats 4000000 in
set_option maxRecDepth 100000 in
theorem c_X2_checkSlot0 (l : Launch) (G : gG) (i : Nat) (hi8 : i < 8) (H0 : Heap)  : XM l yX2_checkSlot wsX2_checkSlot RMX2_checkSlot0 G [.int (nI i)] H0 0 0 0 0 (roV H0 True) xN := by
  refine x_ofW (cc := cX2_checkSlot) (maxL := 1) (ret := none) (by decide) rfl (Nat.le_of_ble_eq_true rfl) ?_
  intro p e s m below meth c hx hb hr hml hown hts hlocks hout hin2 h0 hE ls hl
  replace hown : s.vm.findClass RX2 = some m.cls := hown
  have hK := hE.1
  have hS : va_S (gA 0 0 H0.size) H0 H0 [] := va_S.rf
  generalize hargs : ([.int (nI i)] : List Value).toArray = args at hts ⊢
  have hl : lv_has ls 1 [(0, .int (nI i))] := hl
  refine lv_iload_n hx hb dX2_checkSlot_0 rfl (lv_at hl 0 rfl) ?_
  refine x_if_ltN (tgt := 10) hx hb (by omega) dX2_checkSlot_1 (by decide) ?_
  refine lv_iload_n hx hb dX2_checkSlot_4 rfl (lv_at hl 0 rfl) ?_
  refine lv_bipush (v := nI 8) hx hb dX2_checkSlot_5 (by decide) ?_
  refine x_icmp_lt (tgt := 20) hx hb (by omega) (by omega) dX2_checkSlot_7 (by decide) (fun c7 => ?_) (fun c7 => ?_)
  · exact x_vret hx hb hr hlocks h0 hS (by omega) (by omega) dX2_checkSlot_20 (⟨rfl, trivial⟩)
  · exact absurd c7 (by omega)

abbrev RMX2_checkRow : Room := { frames := 6, cells := 1, slots := 6, locals := 100 }
set_option maxHeartbeats 4000000 in
set_option maxRecDepth 100000 in
theorem c_X2_checkRow (l : Launch) (G : gG) (x : Int32) (H0 : Heap)  : XM l yX2_checkRow wsX2_checkRow RMX2_checkRow G [.int x] H0 0 0 1 6 (roV H0 (okN 3 x)) (fun E _ => E = xIA ∧ ¬ okN 3 x) := by
  refine x_ofW (cc := cX2_checkRow) (maxL := 1) (ret := none) (by decide) rfl (Nat.le_of_ble_eq_true rfl) ?_
  intro p e s m below meth c hx hb hr hml hown hts hlocks hout hin2 h0 hE ls hl
  replace hown : s.vm.findClass RX2 = some m.cls := hown
  have hK := hE.1
  have hS : va_S (gA 0 0 H0.size) H0 H0 [] := va_S.rf
  generalize hargs : ([.int x] : List Value).toArray = args at hts ⊢
  have hw0 := hts (.classLink RX2 73 xIA) (by decide +kernel)
  have hw1 := hts (.initialized xIA) (by decide +kernel)
  have hl : lv_has ls 1 [(0, .int x)] := hl
  refine lv_iload_n hx hb dX2_checkRow_0 rfl (lv_at hl 0 rfl) ?_
  refine lv_if_lt (tgt := 9) hx hb dX2_checkRow_1 (by decide) (fun c1 => ?_) (fun c1 => ?_)
  · exact x_throw (cls := xIA) (text := "the rows are 0 to 2") hx hb hE h0 hS hown hlocks hout (by rw [hml]; exact hl.1) (by decide) hw0 hw1 ot_IA (by decide +kernel) nb_IA (fun w h => by first | exact hts w (List.mem_cons_of_mem _ (List.mem_append_right _ h)) | exact hts w (List.mem_cons_of_mem _ (List.mem_append_left _ (List.mem_append_right _ h))) | exact hts w (List.mem_cons_of_mem _ (List.mem_append_left _ (List.mem_append_left _ (List.mem_append_right _ h))))) dX2_checkRow_9 dX2_checkRow_12 dX2_checkRow_13 dX2_checkRow_15 dX2_checkRow_18 (Nat.le_of_ble_eq_true rfl) (Nat.le_of_ble_eq_true rfl) (Nat.le_of_ble_eq_true rfl) (Nat.le_of_ble_eq_true rfl) (by omega) (by omega) (fun H1 hF => ⟨rfl, fun h => by have h2 := (okN_iff (by decide)).mp h; first | exact h2.1 c1 | exact c6 h2.2⟩)
  · refine lv_iload_n hx hb dX2_checkRow_4 rfl (lv_at hl 0 rfl) ?_
    refine lv_iconst (v := nI 3) hx hb dX2_checkRow_5 (by decide) ?_
    refine lv_icmp_lt (tgt := 19) hx hb dX2_checkRow_6 (by decide) (fun c6 => ?_) (fun c6 => ?_)
    · exact x_vret hx hb hr hlocks h0 hS (by omega) (by omega) dX2_checkRow_19 (⟨rfl, (okN_iff (by decide)).mpr ⟨c1, c6⟩⟩)
    · exact x_throw (cls := xIA) (text := "the rows are 0 to 2") hx hb hE h0 hS hown hlocks hout (by rw [hml]; exact hl.1) (by decide) hw0 hw1 ot_IA (by decide +kernel) nb_IA (fun w h => by first | exact hts w (List.mem_cons_of_mem _ (List.mem_append_right _ h)) | exact hts w (List.mem_cons_of_mem _ (List.mem_append_left _ (List.mem_append_right _ h))) | exact hts w (List.mem_cons_of_mem _ (List.mem_append_left _ (List.mem_append_left _ (List.mem_append_right _ h))))) dX2_checkRow_9 dX2_checkRow_12 dX2_checkRow_13 dX2_checkRow_15 dX2_checkRow_18 (Nat.le_of_ble_eq_true rfl) (Nat.le_of_ble_eq_true rfl) (Nat.le_of_ble_eq_true rfl) (Nat.le_of_ble_eq_true rfl) (by omega) (by omega) (fun H1 hF => ⟨rfl, fun h => by have h2 := (okN_iff (by decide)).mp h; first | exact h2.1 c1 | exact c6 h2.2⟩)

abbrev RMX2_versionIn : Room := { frames := 7, cells := 1, slots := 6, locals := 120 }
set_option maxHeartbeats 4000000 in
set_option maxRecDepth 100000 in
theorem c_X2_versionIn (l : Launch) (G : gG) (b : Nat) (L : List Nat) (txt : Nat → List Nat) (sl : Nat → Nat) (sp : Nat) (x : Int32) (H0 : Heap) (hB : XB G b L txt sl sp H0) : XM l yX2_versionIn wsX2_versionIn RMX2_versionIn G [.ref b, .int x] H0 0 0 1 6 (roR H0 (vk b (sl (ix x))) (okN 8 x)) (fun E _ => E = xIO ∧ ¬ okN 8 x) := by
  refine x_ofW (cc := cX2_versionIn) (maxL := 2) (ret := (some (.object "Releaseledger$Version"))) (by decide) rfl (Nat.le_of_ble_eq_true rfl) ?_
  intro p e s m below meth c hx hb hr hml hown hts hlocks hout hin2 h0 hE ls hl
  replace hown : s.vm.findClass RX2 = some m.cls := hown
  have hK := hE.1
  have hS : va_S (gA 0 0 H0.size) H0 H0 [] := va_S.rf
  generalize hargs : ([.ref b, .int x] : List Value).toArray = args at hts ⊢
  have hw0 := hts (.fieldLink RX2 18 "Releaseledger" "slots" "[LReleaseledger$Version;") (by decide +kernel)
  have hw1 : ∀ w ∈ u_ws RX2 TX2 6, w ∈ wsX2_versionIn := by decide +kernel
  have hl : lv_has ls 2 [(0, .ref b), (1, .int x)] := hl
  have hO := hB.O
  have hT := hB.T
  obtain ⟨f3, hSl, hsl⟩ := hB.2.2.1
  refine lv_iload_n hx hb dX2_versionIn_0 rfl (lv_at hl 1 rfl) ?_
  refine x_goV_ro (x_runS (As := [.int x]) (rest := []) ⟨hx, hb, hml, hown, hts⟩ hE h0 hS (c_X2_checkSlot l G x H0) (va_cwS 1 hts gX2_versionIn_X2_checkSlot rfl rfl rfl (by decide +kernel) ⟨Nat.le_of_ble_eq_true rfl, Nat.le_of_ble_eq_true rfl⟩) (by omega) rfl rfl hl.1 rfl (lv_room (Nat.le_of_ble_eq_true rfl)) dX2_versionIn_1 ⟨by first | exact Nat.le_of_ble_eq_true rfl | omega, by first | exact Nat.le_of_ble_eq_true rfl | omega⟩) hS (by omega) (fun E ce q9 H1 locs1 hXx hFx hSx hce hcv hcl => x_thru hout hlocks h0 hSx hce hcv hcl (hXx) (by omega) (by omega)) (fun locs hq hS => ?_)
  obtain ⟨i, hi, rfl⟩ := hq
  refine lv_aload_n hx hb dX2_versionIn_4 rfl (lv_at hl 0 rfl) ?_
  refine x_get (ci := 2) hx hb hts hown hK rfl hw1 1 (by decide) hw0 hO rfl dX2_versionIn_5 ?_
  refine lv_iload_n hx hb dX2_versionIn_8 rfl (lv_at hl 1 rfl) ?_
  refine x_aald (k := 2) (v := (vk b (sl i))) hx hb hK (by decide) rfl hSl (by omega) (by decide) (hsl _ (by omega)) dX2_versionIn_9 ?_
  exact x_aret hx hb hr (by first | exact Or.inl ⟨_, rfl⟩ | exact Or.inr ⟨_, rfl⟩) hlocks h0 hS (by omega) (by omega) dX2_versionIn_10 (⟨rfl, by rw [ix_N (by omega)], i, hi, rfl⟩)

abbrev RMX2_versionIn0 : Room := { frames := 2, cells := 0, slots := 0, locals := 32 }
set_option maxHeartbeats 4000000 in
set_option maxRecDepth 100000 in
theorem c_X2_versionIn0 (l : Launch) (G : gG) (b : Nat) (L : List Nat) (txt : Nat → List Nat) (sl : Nat → Nat) (sp : Nat) (i : Nat) (hi8 : i < 8) (H0 : Heap) (hB : XB G b L txt sl sp H0) : XM l yX2_versionIn wsX2_versionIn RMX2_versionIn0 G [.ref b, .int (nI i)] H0 0 0 0 0 (roR H0 (vk b (sl i)) True) xN := by
  refine x_ofW (cc := cX2_versionIn) (maxL := 2) (ret := (some (.object "Releaseledger$Version"))) (by decide) rfl (Nat.le_of_ble_eq_true rfl) ?_
  intro p e s m below meth c hx hb hr hml hown hts hlocks hout hin2 h0 hE ls hl
  replace hown : s.vm.findClass RX2 = some m.cls := hown
  have hK := hE.1
  have hS : va_S (gA 0 0 H0.size) H0 H0 [] := va_S.rf
  generalize hargs : ([.ref b, .int (nI i)] : List Value).toArray = args at hts ⊢
  have hw0 := hts (.fieldLink RX2 18 "Releaseledger" "slots" "[LReleaseledger$Version;") (by decide +kernel)
  have hw1 : ∀ w ∈ u_ws RX2 TX2 6, w ∈ wsX2_versionIn := by decide +kernel
  have hl : lv_has ls 2 [(0, .ref b), (1, .int (nI i))] := hl
  have hO := hB.O
  have hT := hB.T
  obtain ⟨f3, hSl, hsl⟩ := hB.2.2.1
  refine lv_iload_n hx hb dX2_versionIn_0 rfl (lv_at hl 1 rfl) ?_
  refine x_goV_ro (x_runS (As := [.int (nI i)]) (rest := []) ⟨hx, hb, hml, hown, hts⟩ hE h0 hS (c_X2_checkSlot0 l G i (by omega) H0) (va_cwS 1 hts gX2_versionIn_X2_checkSlot rfl rfl rfl (by decide +kernel) ⟨Nat.le_of_ble_eq_true rfl, Nat.le_of_ble_eq_true rfl⟩) (by omega) rfl rfl hl.1 rfl (lv_room (Nat.le_of_ble_eq_true rfl)) dX2_versionIn_1 ⟨by first | exact Nat.le_of_ble_eq_true rfl | omega, by first | exact Nat.le_of_ble_eq_true rfl | omega⟩) hS (by omega) (fun _ _ _ _ _ h => h.elim) (fun locs hq hS => ?_)
  refine lv_aload_n hx hb dX2_versionIn_4 rfl (lv_at hl 0 rfl) ?_
  refine x_get (ci := 2) hx hb hts hown hK rfl hw1 1 (by decide) hw0 hO rfl dX2_versionIn_5 ?_
  refine lv_iload_n hx hb dX2_versionIn_8 rfl (lv_at hl 1 rfl) ?_
  refine x_aald (k := 2) (v := (vk b (sl i))) hx hb hK (by decide) rfl hSl (by omega) (by decide) (hsl _ (by omega)) dX2_versionIn_9 ?_
  exact x_aret hx hb hr (by first | exact Or.inl ⟨_, rfl⟩ | exact Or.inr ⟨_, rfl⟩) hlocks h0 hS (by omega) (by omega) dX2_versionIn_10 (⟨rfl, rfl, trivial⟩)

abbrev RMX2_putJoint : Room := { frames := 2, cells := 0, slots := 0, locals := 33 }
set_option maxHeartbeats 4000000 in
set_option maxRecDepth 100000 in
theorem c_X2_putJoint (l : Launch) (G : gG) (b : Nat) (L : List Nat) (txt : Nat → List Nat) (sl : Nat → Nat) (sp : Nat) (how : Nat) (hh : how < 65536) (hlen : L.length < 60) (H0 : Heap) (hB : XB G b L txt sl sp H0) : XM l yX2_putJoint wsX2_putJoint RMX2_putJoint G [.ref b, .int (nI how)] H0 (b + 1) (b + 3) 0 0 (qV (fun H1 => Tx G (b + 1) (jn L how) H1)) xN := by
  refine x_ofW (cc := cX2_putJoint) (maxL := 2) (ret := none) (by decide) rfl (Nat.le_of_ble_eq_true rfl) ?_
  intro p e s m below meth c hx hb hr hml hown hts hlocks hout hin2 h0 hE ls hl
  replace hown : s.vm.findClass RX2 = some m.cls := hown
  have hK := hE.1
  have hS : va_S (gA (b + 1) (b + 3) H0.size) H0 H0 [] := va_S.rf
  generalize hargs : ([.ref b, .int (nI how)] : List Value).toArray = args at hts ⊢
  have hw0 := hts (.fieldLink RX2 10 "Releaseledger" "draft" "LReleaseledger$Text;") (by decide +kernel)
  have hw1 : ∀ w ∈ u_ws RX2 TX2 6, w ∈ wsX2_putJoint := by decide +kernel
  have hl : lv_has ls 2 [(0, .ref b), (1, .int (nI how))] := hl
  have hO := hB.O
  have hT := hB.T
  obtain ⟨f3, hSl, hsl⟩ := hB.2.2.1
  refine lv_iload_n hx hb dX2_putJoint_0 rfl (lv_at hl 1 rfl) ?_
  refine lv_bipush (v := nI 110) hx hb dX2_putJoint_1 (by decide) ?_
  refine x_icmp_eq (tgt := 14) hx hb (by omega) (by omega) dX2_putJoint_3 (by decide) (fun c3 => ?_) (fun c3 => ?_)
  · exact x_vret hx hb hr hlocks h0 hS (by omega) (by omega) dX2_putJoint_14 (by unfold jn; rw [if_pos (by omega)]; exact hT)
  · refine lv_aload_n hx hb dX2_putJoint_6 rfl (lv_at hl 0 rfl) ?_
    refine x_get (ci := 2) hx hb hts hown hK rfl hw1 0 (by decide) hw0 hO rfl dX2_putJoint_7 ?_
    refine lv_iload_n hx hb dX2_putJoint_10 rfl (lv_at hl 1 rfl) ?_
    refine x_goV (x_runV (As := [.int (nI how)]) (rest := []) ⟨hx, hb, hml, hown, hts⟩ hE h0 hS (c_X0_put l G (b + 1) L how hlen hh H0 hT) (cwV 1 hts gX2_putJoint_X0_put rfl rfl rfl (by decide +kernel) ⟨Nat.le_of_ble_eq_true rfl, Nat.le_of_ble_eq_true rfl⟩) (hT.recv hK) (by omega) rfl rfl hl.1 rfl (lv_room (Nat.le_of_ble_eq_true rfl)) dX2_putJoint_11 ⟨by first | exact Nat.le_of_ble_eq_true rfl | omega, by first | exact Nat.le_of_ble_eq_true rfl | omega⟩) hS (by omega) (fun _ _ _ _ _ h => h.elim) (fun  H1 locs hq hF hS => ?_)
    have hO := hO.fr hF (by omega)
    have hT := hq
    exact x_vret hx hb hr hlocks h0 hS (by omega) (by omega) dX2_putJoint_14 (by unfold jn; rw [if_neg (by omega)]; exact hT)
