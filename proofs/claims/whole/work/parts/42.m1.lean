abbrev RMX3_thrown : Room := { frames := 1, cells := 0, slots := 0, locals := 12 }
set_option maxHeartbeats 4000000 in
set_option maxRecDepth 100000 in
theorem c_X3_thrown (l : Launch) (G : gG) (y : Nat) (n th : Int32) (H0 : Heap) (hO : MO G y n th H0) : XM l yX3_thrown wsX3_thrown RMX3_thrown G [.ref y] H0 0 0 0 0 (roI H0 th True) xN := by
  refine x_ofW (cc := cX3_thrown) (maxL := 1) (ret := (some .int)) (by decide) rfl (Nat.le_of_ble_eq_true rfl) ?_
  intro p e s m below meth c hx hb hr hml hown hts hlocks hout hin2 h0 hE ls hl
  replace hown : s.vm.findClass RX3 = some m.cls := hown
  have hK := hE.1
  have hS : va_S (gA 0 0 H0.size) H0 H0 [] := va_S.rf
  generalize hargs : ([.ref y] : List Value).toArray = args at hts ⊢
  have hw0 := hts (.fieldLink RX3 39 "ReleaseledgerModel" "thrown" "I") (by decide +kernel)
  have hw1 : ∀ w ∈ u_ws RX3 TX3 9, w ∈ wsX3_thrown := by decide +kernel
  have hl : lv_has ls 1 [(0, .ref y)] := hl
  refine lv_aload_n hx hb dX3_thrown_0 rfl (lv_at hl 0 rfl) ?_
  refine x_get (ci := 3) hx hb hts hown hK rfl hw1 8 (by decide) hw0 hO rfl dX3_thrown_1 ?_
  exact x_iret hx hb hr hlocks h0 hS (by omega) (by omega) dX3_thrown_4 (⟨rfl, rfl, trivial⟩)

abbrev RMX3_no : Room := { frames := 1, cells := 0, slots := 0, locals := 12 }
set_option maxHeartbeats 4000000 in
set_option maxRecDepth 100000 in
theorem c_X3_no (l : Launch) (G : gG) (y : Nat) (n th : Int32) (ok : Bool) (k : Nat) (H0 : Heap) (hO : MO G y n th H0) : XM l yX3_no wsX3_no RMX3_no G [.ref y, .int (bI ok), .int (nI k)] H0 y (y + 1) 0 0 (qI (fun r H1 => r = bI (!ok) ∧ MO G y n (if ok = true then 0 else nI k) H1)) xN := by
  refine x_ofW (cc := cX3_no) (maxL := 3) (ret := (some .boolean)) (by decide) rfl (Nat.le_of_ble_eq_true rfl) ?_
  intro p e s m below meth c hx hb hr hml hown hts hlocks hout hin2 h0 hE ls hl
  replace hown : s.vm.findClass RX3 = some m.cls := hown
  have hK := hE.1
  have hS : va_S (gA y (y + 1) H0.size) H0 H0 [] := va_S.rf
  generalize hargs : ([.ref y, .int (bI ok), .int (nI k)] : List Value).toArray = args at hts ⊢
  have hw0 := hts (.fieldLink RX3 39 "ReleaseledgerModel" "thrown" "I") (by decide +kernel)
  have hw1 : ∀ w ∈ u_ws RX3 TX3 9, w ∈ wsX3_no := by decide +kernel
  have hl : lv_has ls 3 [(0, .ref y), (1, .int (bI ok)), (2, .int (nI k))] := hl
  refine lv_aload_n hx hb dX3_no_0 rfl (lv_at hl 0 rfl) ?_
  refine lv_iload_n hx hb dX3_no_1 rfl (lv_at hl 1 rfl) ?_
  refine x_if_eqB (tgt := 9) hx hb dX3_no_2 (by decide) (fun c2 => ?_) (fun c2 => ?_)
  · refine lv_iload_n hx hb dX3_no_9 rfl (lv_at hl 2 rfl) ?_
    refine x_put (ci := 3) hx hb hts hown hK rfl hw1 tyX3_ok nmX3 8 (by decide) hw0 rfl (tyX3_ok 8 (by decide)) rfl rfl hO (Nat.le_of_ble_eq_true rfl) hS (by unfold gA; omega) dX3_no_10 (fun H1 locs hO hF hz hS => ?_)
    have hO : gO G y 3 [.ref (y + 1), .int n, .ref (y + 2), .ref (y + 11), .ref (y + 12), .ref (y + 13), .ref (y + 16), .ref (y + 25), .int (nI k)] H1 := hO
    refine lv_iload_n hx hb dX3_no_13 rfl (lv_at hl 1 rfl) ?_
    refine x_if_neB (tgt := 21) hx hb dX3_no_14 (by decide) (fun c14 => ?_) (fun c14 => ?_)
    · exact absurd (c2.symm.trans c14) (by decide)
    · refine lv_iconst (v := nI 1) hx hb dX3_no_17 (by decide) ?_
      refine lv_goto (tgt := 22) hx hb dX3_no_18 (by decide) ?_
      exact x_zret hx hb hr hlocks h0 hS (by omega) (by omega) dX3_no_22 (by first | rfl | exact bI_nar _) (⟨by rw [c2]; rfl, by rw [c2]; exact hO⟩)
  · refine lv_iconst (v := nI 0) hx hb dX3_no_5 (by decide) ?_
    refine lv_goto (tgt := 10) hx hb dX3_no_6 (by decide) ?_
    refine x_put (ci := 3) hx hb hts hown hK rfl hw1 tyX3_ok nmX3 8 (by decide) hw0 rfl (tyX3_ok 8 (by decide)) rfl rfl hO (Nat.le_of_ble_eq_true rfl) hS (by unfold gA; omega) dX3_no_10 (fun H2 locs hO hF hz hS => ?_)
    have hO : gO G y 3 [.ref (y + 1), .int n, .ref (y + 2), .ref (y + 11), .ref (y + 12), .ref (y + 13), .ref (y + 16), .ref (y + 25), .int (nI 0)] H2 := hO
    refine lv_iload_n hx hb dX3_no_13 rfl (lv_at hl 1 rfl) ?_
    refine x_if_neB (tgt := 21) hx hb dX3_no_14 (by decide) (fun c14 => ?_) (fun c14 => ?_)
    · refine lv_iconst (v := nI 0) hx hb dX3_no_21 (by decide) ?_
      exact x_zret hx hb hr hlocks h0 hS (by omega) (by omega) dX3_no_22 (by first | rfl | exact bI_nar _) (⟨by rw [c2]; rfl, by rw [c2]; exact hO⟩)
    · exact absurd (c2.symm.trans c14) (by decide)

abbrev RMX3_in : Room := { frames := 1, cells := 0, slots := 0, locals := 12 }
set_option maxHeartbeats 4000000 in
set_option maxRecDepth 100000 in
theorem c_X3_in (l : Launch) (G : gG) (x a b : Int32) (H0 : Heap)  : XM l yX3_in wsX3_in RMX3_in G [.int x, .int a, .int b] H0 0 0 0 0 (roI H0 (bI (inB x a b)) True) xN := by
  refine x_ofW (cc := cX3_in) (maxL := 3) (ret := (some .boolean)) (by decide) rfl (Nat.le_of_ble_eq_true rfl) ?_
  intro p e s m below meth c hx hb hr hml hown hts hlocks hout hin2 h0 hE ls hl
  replace hown : s.vm.findClass RX3 = some m.cls := hown
  have hK := hE.1
  have hS : va_S (gA 0 0 H0.size) H0 H0 [] := va_S.rf
  generalize hargs : ([.int x, .int a, .int b] : List Value).toArray = args at hts ⊢
  have hl : lv_has ls 3 [(0, .int x), (1, .int a), (2, .int b)] := hl
  refine lv_iload_n hx hb dX3_in_0 rfl (lv_at hl 0 rfl) ?_
  refine lv_iload_n hx hb dX3_in_1 rfl (lv_at hl 1 rfl) ?_
  refine lv_icmp_lt (tgt := 14) hx hb dX3_in_2 (by decide) (fun c2 => ?_) (fun c2 => ?_)
  · refine lv_iconst (v := nI 0) hx hb dX3_in_14 (by decide) ?_
    exact x_zret hx hb hr hlocks h0 hS (by omega) (by omega) dX3_in_15 (by first | rfl | exact bI_nar _) (⟨rfl, by first | exact (inB_f (Or.inl c2)).symm | exact (inB_f (Or.inr c7)).symm, trivial⟩)
  · refine lv_iload_n hx hb dX3_in_5 rfl (lv_at hl 0 rfl) ?_
    refine lv_iload_n hx hb dX3_in_6 rfl (lv_at hl 2 rfl) ?_
    refine lv_icmp_gt (tgt := 14) hx hb dX3_in_7 (by decide) (fun c7 => ?_) (fun c7 => ?_)
    · refine lv_iconst (v := nI 0) hx hb dX3_in_14 (by decide) ?_
      exact x_zret hx hb hr hlocks h0 hS (by omega) (by omega) dX3_in_15 (by first | rfl | exact bI_nar _) (⟨rfl, by first | exact (inB_f (Or.inl c2)).symm | exact (inB_f (Or.inr c7)).symm, trivial⟩)
    · refine lv_iconst (v := nI 1) hx hb dX3_in_10 (by decide) ?_
      refine lv_goto (tgt := 15) hx hb dX3_in_11 (by decide) ?_
      exact x_zret hx hb hr hlocks h0 hS (by omega) (by omega) dX3_in_15 (by first | rfl | exact bI_nar _) (⟨rfl, (inB_t (Int32.not_lt.mp c2) (Int32.not_lt.mp c7)).symm, trivial⟩)

abbrev RMX3_isSlot : Room := { frames := 2, cells := 0, slots := 0, locals := 34 }
set_option maxHeartbeats 4000000 in
set_option maxRecDepth 100000 in
theorem c_X3_isSlot (l : Launch) (G : gG) (x : Int32) (H0 : Heap)  : XM l yX3_isSlot wsX3_isSlot RMX3_isSlot G [.int x] H0 0 0 0 0 (roI H0 (bI (inB x (nI 0) (nI 7))) True) xN := by
  refine x_ofW (cc := cX3_isSlot) (maxL := 1) (ret := (some .boolean)) (by decide) rfl (Nat.le_of_ble_eq_true rfl) ?_
  intro p e s m below meth c hx hb hr hml hown hts hlocks hout hin2 h0 hE ls hl
  replace hown : s.vm.findClass RX3 = some m.cls := hown
  have hK := hE.1
  have hS : va_S (gA 0 0 H0.size) H0 H0 [] := va_S.rf
  generalize hargs : ([.int x] : List Value).toArray = args at hts ⊢
  have hl : lv_has ls 1 [(0, .int x)] := hl
  refine lv_iload_n hx hb dX3_isSlot_0 rfl (lv_at hl 0 rfl) ?_
  refine lv_iconst (v := nI 0) hx hb dX3_isSlot_1 (by decide) ?_
  refine lv_bipush (v := nI 7) hx hb dX3_isSlot_2 (by decide) ?_
  refine x_goI_ro (x_runS (As := [.int x, .int (nI 0), .int (nI 7)]) (rest := []) ⟨hx, hb, hml, hown, hts⟩ hE h0 hS (c_X3_in l G x (nI 0) (nI 7) H0) (va_cwS 3 hts gX3_isSlot_X3_in rfl rfl rfl (by decide +kernel) ⟨Nat.le_of_ble_eq_true rfl, Nat.le_of_ble_eq_true rfl⟩) (by omega) rfl rfl hl.1 rfl (lv_room (Nat.le_of_ble_eq_true rfl)) dX3_isSlot_4 ⟨by first | exact Nat.le_of_ble_eq_true rfl | omega, by first | exact Nat.le_of_ble_eq_true rfl | omega⟩) hS (by omega) (fun _ _ _ _ _ h => h.elim) (fun locs hq hS => ?_)
  exact x_zret hx hb hr hlocks h0 hS (by omega) (by omega) dX3_isSlot_7 (by first | rfl | exact bI_nar _) (⟨rfl, rfl, trivial⟩)

abbrev RMX3_isDigit : Room := { frames := 1, cells := 0, slots := 0, locals := 12 }
set_option maxHeartbeats 4000000 in
set_option maxRecDepth 100000 in
theorem c_X3_isDigit (l : Launch) (G : gG) (ch : Nat) (hch : ch < 65536) (H0 : Heap)  : XM l yX3_isDigit wsX3_isDigit RMX3_isDigit G [.int (nI ch)] H0 0 0 0 0 (roI H0 (bI (decide (kd ch = 1))) True) xN := by
  refine x_ofW (cc := cX3_isDigit) (maxL := 1) (ret := (some .boolean)) (by decide) rfl (Nat.le_of_ble_eq_true rfl) ?_
  intro p e s m below meth c hx hb hr hml hown hts hlocks hout hin2 h0 hE ls hl
  replace hown : s.vm.findClass RX3 = some m.cls := hown
  have hK := hE.1
  have hS : va_S (gA 0 0 H0.size) H0 H0 [] := va_S.rf
  generalize hargs : ([.int (nI ch)] : List Value).toArray = args at hts ⊢
  have hl : lv_has ls 1 [(0, .int (nI ch))] := hl
  refine lv_iload_n hx hb dX3_isDigit_0 rfl (lv_at hl 0 rfl) ?_
  refine lv_bipush (v := nI 48) hx hb dX3_isDigit_1 (by decide) ?_
  refine x_icmp_lt (tgt := 16) hx hb (by omega) (by omega) dX3_isDigit_3 (by decide) (fun c3 => ?_) (fun c3 => ?_)
  · refine lv_iconst (v := nI 0) hx hb dX3_isDigit_16 (by decide) ?_
    exact x_zret hx hb hr hlocks h0 hS (by omega) (by omega) dX3_isDigit_17 (by first | rfl | exact bI_nar _) (⟨rfl, by rw [decide_eq_false (fun h => by have := kd_48 h; have := kd_57 h; omega)]; rfl, trivial⟩)
  · refine lv_iload_n hx hb dX3_isDigit_6 rfl (lv_at hl 0 rfl) ?_
    refine lv_bipush (v := nI 57) hx hb dX3_isDigit_7 (by decide) ?_
    refine x_icmp_gt (tgt := 16) hx hb (by omega) (by omega) dX3_isDigit_9 (by decide) (fun c9 => ?_) (fun c9 => ?_)
    · refine lv_iconst (v := nI 0) hx hb dX3_isDigit_16 (by decide) ?_
      exact x_zret hx hb hr hlocks h0 hS (by omega) (by omega) dX3_isDigit_17 (by first | rfl | exact bI_nar _) (⟨rfl, by rw [decide_eq_false (fun h => by have := kd_48 h; have := kd_57 h; omega)]; rfl, trivial⟩)
    · refine lv_iconst (v := nI 1) hx hb dX3_isDigit_12 (by decide) ?_
      refine lv_goto (tgt := 17) hx hb dX3_isDigit_13 (by decide) ?_
      exact x_zret hx hb hr hlocks h0 hS (by omega) (by omega) dX3_isDigit_17 (by first | rfl | exact bI_nar _) (⟨rfl, by rw [decide_eq_true (kd_digit (by omega) (by omega))]; rfl, trivial⟩)

abbrev RMX3_isPoint : Room := { frames := 1, cells := 0, slots := 0, locals := 12 }
set_option maxHeartbeats 4000000 in
set_option maxRecDepth 100000 in
theorem c_X3_isPoint (l : Launch) (G : gG) (ch : Nat) (hch : ch < 65536) (H0 : Heap)  : XM l yX3_isPoint wsX3_isPoint RMX3_isPoint G [.int (nI ch)] H0 0 0 0 0 (roI H0 (bI (decide (kd ch = 0))) True) xN := by
  refine x_ofW (cc := cX3_isPoint) (maxL := 1) (ret := (some .boolean)) (by decide) rfl (Nat.le_of_ble_eq_true rfl) ?_
  intro p e s m below meth c hx hb hr hml hown hts hlocks hout hin2 h0 hE ls hl
  replace hown : s.vm.findClass RX3 = some m.cls := hown
  have hK := hE.1
  have hS : va_S (gA 0 0 H0.size) H0 H0 [] := va_S.rf
  generalize hargs : ([.int (nI ch)] : List Value).toArray = args at hts ⊢
  have hl : lv_has ls 1 [(0, .int (nI ch))] := hl
  refine lv_iload_n hx hb dX3_isPoint_0 rfl (lv_at hl 0 rfl) ?_
  refine lv_bipush (v := nI 46) hx hb dX3_isPoint_1 (by decide) ?_
  refine x_icmp_eq (tgt := 18) hx hb (by omega) (by omega) dX3_isPoint_3 (by decide) (fun c3 => ?_) (fun c3 => ?_)
  · refine lv_iconst (v := nI 1) hx hb dX3_isPoint_18 (by decide) ?_
    refine lv_goto (tgt := 23) hx hb dX3_isPoint_19 (by decide) ?_
    exact x_zret hx hb hr hlocks h0 hS (by omega) (by omega) dX3_isPoint_23 (by first | rfl | exact bI_nar _) (⟨rfl, by rw [decide_eq_true (kd_joint (c := ch) (by omega))]; rfl, trivial⟩)
  · refine lv_iload_n hx hb dX3_isPoint_6 rfl (lv_at hl 0 rfl) ?_
    refine lv_bipush (v := nI 45) hx hb dX3_isPoint_7 (by decide) ?_
    refine x_icmp_eq (tgt := 18) hx hb (by omega) (by omega) dX3_isPoint_9 (by decide) (fun c9 => ?_) (fun c9 => ?_)
    · refine lv_iconst (v := nI 1) hx hb dX3_isPoint_18 (by decide) ?_
      refine lv_goto (tgt := 23) hx hb dX3_isPoint_19 (by decide) ?_
      exact x_zret hx hb hr hlocks h0 hS (by omega) (by omega) dX3_isPoint_23 (by first | rfl | exact bI_nar _) (⟨rfl, by rw [decide_eq_true (kd_joint (c := ch) (by omega))]; rfl, trivial⟩)
    · refine lv_iload_n hx hb dX3_isPoint_12 rfl (lv_at hl 0 rfl) ?_
      refine lv_bipush (v := nI 43) hx hb dX3_isPoint_13 (by decide) ?_
      refine x_icmp_ne (tgt := 22) hx hb (by omega) (by omega) dX3_isPoint_15 (by decide) (fun c15 => ?_) (fun c15 => ?_)
      · refine lv_iconst (v := nI 0) hx hb dX3_isPoint_22 (by decide) ?_
        exact x_zret hx hb hr hlocks h0 hS (by omega) (by omega) dX3_isPoint_23 (by first | rfl | exact bI_nar _) (⟨rfl, by rw [decide_eq_false (fun h => by have := kd_j h; omega)]; rfl, trivial⟩)
      · refine lv_iconst (v := nI 1) hx hb dX3_isPoint_18 (by decide) ?_
        refine lv_goto (tgt := 23) hx hb dX3_isPoint_19 (by decide) ?_
        exact x_zret hx hb hr hlocks h0 hS (by omega) (by omega) dX3_isPoint_23 (by first | rfl | exact bI_nar _) (⟨rfl, by rw [decide_eq_true (kd_joint (c := ch) (by omega))]; rfl, trivial⟩)

abbrev RMX3_isWay : Room := { frames := 2, cells := 0, slots := 0, locals := 32 }
set_option maxHeartbeats 4000000 in
set_option maxRecDepth 100000 in
theorem c_X3_isWay (l : Launch) (G : gG) (ch : Nat) (hch : ch < 65536) (H0 : Heap)  : XM l yX3_isWay wsX3_isWay RMX3_isWay G [.int (nI ch)] H0 0 0 0 0 (roI H0 (bI (isWayB ch)) True) xN := by
  refine x_ofW (cc := cX3_isWay) (maxL := 1) (ret := (some .boolean)) (by decide) rfl (Nat.le_of_ble_eq_true rfl) ?_
  intro p e s m below meth c hx hb hr hml hown hts hlocks hout hin2 h0 hE ls hl
  replace hown : s.vm.findClass RX3 = some m.cls := hown
  have hK := hE.1
  have hS : va_S (gA 0 0 H0.size) H0 H0 [] := va_S.rf
  generalize hargs : ([.int (nI ch)] : List Value).toArray = args at hts ⊢
  have hl : lv_has ls 1 [(0, .int (nI ch))] := hl
  refine lv_iload_n hx hb dX3_isWay_0 rfl (lv_at hl 0 rfl) ?_
  refine lv_bipush (v := nI 110) hx hb dX3_isWay_1 (by decide) ?_
  refine x_icmp_eq (tgt := 13) hx hb (by omega) (by omega) dX3_isWay_3 (by decide) (fun c3 => ?_) (fun c3 => ?_)
  · refine lv_iconst (v := nI 1) hx hb dX3_isWay_13 (by decide) ?_
    refine lv_goto (tgt := 18) hx hb dX3_isWay_14 (by decide) ?_
    exact x_zret hx hb hr hlocks h0 hS (by omega) (by omega) dX3_isWay_18 (by first | rfl | exact bI_nar _) (⟨rfl, (isWayB_t (by first | omega | (have := kd_j (of_decide_eq_true c10); omega))).symm, trivial⟩)
  · refine lv_iload_n hx hb dX3_isWay_6 rfl (lv_at hl 0 rfl) ?_
    refine x_goI_ro (x_runS (As := [.int (nI ch)]) (rest := []) ⟨hx, hb, hml, hown, hts⟩ hE h0 hS (c_X3_isPoint l G ch hch H0) (va_cwS 1 hts gX3_isWay_X3_isPoint rfl rfl rfl (by decide +kernel) ⟨Nat.le_of_ble_eq_true rfl, Nat.le_of_ble_eq_true rfl⟩) (by omega) rfl rfl hl.1 rfl (lv_room (Nat.le_of_ble_eq_true rfl)) dX3_isWay_7 ⟨by first | exact Nat.le_of_ble_eq_true rfl | omega, by first | exact Nat.le_of_ble_eq_true rfl | omega⟩) hS (by omega) (fun _ _ _ _ _ h => h.elim) (fun locs hq hS => ?_)
    refine x_if_eqB (tgt := 17) hx hb dX3_isWay_10 (by decide) (fun c10 => ?_) (fun c10 => ?_)
    · refine lv_iconst (v := nI 0) hx hb dX3_isWay_17 (by decide) ?_
      exact x_zret hx hb hr hlocks h0 hS (by omega) (by omega) dX3_isWay_18 (by first | rfl | exact bI_nar _) (⟨rfl, (isWayB_f c3 (of_decide_eq_false c10)).symm, trivial⟩)
    · refine lv_iconst (v := nI 1) hx hb dX3_isWay_13 (by decide) ?_
      refine lv_goto (tgt := 18) hx hb dX3_isWay_14 (by decide) ?_
      exact x_zret hx hb hr hlocks h0 hS (by omega) (by omega) dX3_isWay_18 (by first | rfl | exact bI_nar _) (⟨rfl, (isWayB_t (by first | omega | (have := kd_j (of_decide_eq_true c10); omega))).symm, trivial⟩)

abbrev RMX3_length : Room := { frames := 1, cells := 0, slots := 0, locals := 12 }
set_option maxHeartbeats 4000000 in
set_option maxRecDepth 100000 in
theorem c_X3_length (l : Launch) (G : gG) (n : Nat) (hn31 : n < 2147483648) (H0 : Heap)  : XM l yX3_length wsX3_length RMX3_length G [.int (nI n)] H0 0 0 0 0 (roI H0 (nI (dgs n)) True) xN := by
  refine x_ofW (cc := cX3_length) (maxL := 3) (ret := (some .int)) (by decide) rfl (Nat.le_of_ble_eq_true rfl) ?_
  intro p e s m below meth c hx hb hr hml hown hts hlocks hout hin2 h0 hE ls hl
  replace hown : s.vm.findClass RX3 = some m.cls := hown
  have hK := hE.1
  have hS : va_S (gA 0 0 H0.size) H0 H0 [] := va_S.rf
  generalize hargs : ([.int (nI n)] : List Value).toArray = args at hts ⊢
  have hl : lv_has ls 3 [(0, .int (nI n))] := hl
  refine lv_iconst (v := nI 1) hx hb dX3_length_0 (by decide) ?_
  refine lv_istore_n (lv' := [(1, .int (nI 1)), (0, .int (nI n))]) hx hb dX3_length_1 rfl hl (by decide) rfl (fun ls hl => ?_)
  refine lv_iload_n hx hb dX3_length_2 rfl (lv_at hl 1 rfl) ?_
  refine lv_bipush (v := nI 10) hx hb dX3_length_3 (by decide) ?_
  refine lv_idiv hx hb dX3_length_5 (by decide) ?_
  refine x_rw (z := nI (n / 10)) (pk_div (by omega) (by omega) (by omega)) ?_
  refine lv_istore_n (lv' := [(2, .int (nI (n / 10))), (1, .int (nI 1)), (0, .int (nI n))]) hx hb dX3_length_6 rfl hl (by decide) rfl (fun ls hl => ?_)
  have loop7 : ∀ (fu : Nat) (k r : Nat) (hk : 0 < r → k + dgs r = dgs n) (hk0 : r = 0 → k = dgs n) (hr0 : r ≤ n) (locs : List Loc) (hS : va_S (gA 0 0 H0.size) H0 H0 locs) (ls : Array Slot), r < fu → lv_has ls 3 [(2, .int (nI r)), (1, .int (nI k)), (0, .int (nI n))] → W p l e RMX3_length s m args below meth c H0 locs 0 0 (XQ below args s H0 0 0 0 0 (roI H0 (nI (dgs n)) True) xN) (F0 m 7 ls []) := by
    intro fu7
    induction fu7 with
    | zero => intro k r hk hk0 hr0 locs hS  ls hmu; exact absurd hmu (Nat.not_lt_zero _)
    | succ fu7 ih7 =>
      intro k r hk hk0 hr0 locs hS  ls hmu7 hl
      refine lv_iload_n hx hb dX3_length_7 rfl (lv_at hl 0 rfl) ?_
      refine x_if_leN (tgt := 22) hx hb (by omega) dX3_length_8 (by decide) (fun c8 => ?_) (fun c8 => ?_)
      · refine lv_iload_n hx hb dX3_length_22 rfl (lv_at hl 1 rfl) ?_
        exact x_iret hx hb hr hlocks h0 hS (by omega) (by omega) dX3_length_23 (⟨rfl, by rw [hk0 c8], trivial⟩)
      · refine lv_iinc (v := nI (k + 1)) (lv' := [(1, .int (nI (k + 1))), (2, .int (nI r)), (0, .int (nI n))]) hx hb dX3_length_11 hl (k := 1) rfl (nI_1 _) (by decide) rfl (fun ls hl => ?_)
        refine lv_iload_n hx hb dX3_length_14 rfl (lv_at hl 1 rfl) ?_
        refine lv_bipush (v := nI 10) hx hb dX3_length_15 (by decide) ?_
        refine lv_idiv hx hb dX3_length_17 (by decide) ?_
        refine x_rw (z := nI (r / 10)) (pk_div (by omega) (by omega) (by omega)) ?_
        refine lv_istore_n (lv' := [(2, .int (nI (r / 10))), (1, .int (nI (k + 1))), (0, .int (nI n))]) hx hb dX3_length_18 rfl hl (by decide) rfl (fun ls hl => ?_)
        refine lv_goto (tgt := 7) hx hb dX3_length_19 (by decide) ?_
        exact ih7 (k + 1) (r / 10) (fun h => by have h1 := hk c8; rw [dgs_step (n := r) (by omega)] at h1; omega) (fun h => by have h1 := hk c8; rw [dgs_small (n := r) (by omega)] at h1; omega) (by omega) _ hS ls (by omega) (lv_sub hl [0, 1, 2] rfl)
  exact loop7 _ 1 (n / 10) (fun h => by rw [dgs_step (n := n) (by omega)]; omega) (fun h => (dgs_small (by omega)).symm) (Nat.div_le_self _ _) _ hS ls (Nat.lt_succ_self _) (lv_sub hl [0, 1, 2] rfl)

abbrev RMX3_digits : Room := { frames := 2, cells := 0, slots := 0, locals := 34 }
set_option maxHeartbeats 4000000 in
set_option maxRecDepth 100000 in
/-- digits into an array, from the last one on -/
theorem c_X3_digits (l : Launch) (G : gG) (a fr n z : Nat) (fd : Nat → Int32) (hn9 : n < 1000000000) (hz : z ≤ 60) (hlen : fr + (z + dgs n) ≤ 60) (H0 : Heap) (hA : gI G a 0 60 fd H0) : XM l yX3_digits wsX3_digits RMX3_digits G [.ref a, .int (nI fr), .int (nI n), .int (nI z)] H0 a (a + 1) 0 0 (qI (fun r H1 => r = nI (fr + (z + dgs n)) ∧ ∃ fd2 : Nat → Int32, gI G a 0 60 fd2 H1 ∧ (∀ i, i < fr → fd2 i = fd i) ∧ ∀ i, i < z + dgs n → fd2 (fr + i) = nI (cg (num n z) i))) xN := by
  refine x_ofW (cc := cX3_digits) (maxL := 7) (ret := (some .int)) (by decide) rfl (Nat.le_of_ble_eq_true rfl) ?_
  intro p e s m below meth c hx hb hr hml hown hts hlocks hout hin2 h0 hE ls hl
  replace hown : s.vm.findClass RX3 = some m.cls := hown
  have hK := hE.1
  have hS : va_S (gA a (a + 1) H0.size) H0 H0 [] := va_S.rf
  generalize hargs : ([.ref a, .int (nI fr), .int (nI n), .int (nI z)] : List Value).toArray = args at hts ⊢
  have hl : lv_has ls 7 [(0, .ref a), (1, .int (nI fr)), (2, .int (nI n)), (3, .int (nI z))] := hl
  have hd0 := dgs_pos n
  have hd9 := dgs_lo hn9
  refine lv_iload_n hx hb dX3_digits_0 rfl (lv_at hl 3 rfl) ?_
  refine lv_iload_n hx hb dX3_digits_1 rfl (lv_at hl 2 rfl) ?_
  refine x_goI_ro (x_runS (As := [.int (nI n)]) (rest := [.int (nI z)]) ⟨hx, hb, hml, hown, hts⟩ hE h0 hS (c_X3_length l G n (by omega) H0) (va_cwS 1 hts gX3_digits_X3_length rfl rfl rfl (by decide +kernel) ⟨Nat.le_of_ble_eq_true rfl, Nat.le_of_ble_eq_true rfl⟩) (by omega) rfl rfl hl.1 rfl (lv_room (Nat.le_of_ble_eq_true rfl)) dX3_digits_2 ⟨by first | exact Nat.le_of_ble_eq_true rfl | omega, by first | exact Nat.le_of_ble_eq_true rfl | omega⟩) hS (by omega) (fun _ _ _ _ _ h => h.elim) (fun locs hq hS => ?_)
  refine lv_iadd hx hb dX3_digits_5 ?_
  refine x_rw (z := nI (z + (dgs n))) (nI_add _ _) ?_
  refine lv_istore (lv' := [(4, .int (nI (z + (dgs n)))), (0, .ref a), (1, .int (nI fr)), (2, .int (nI n)), (3, .int (nI z))]) hx hb dX3_digits_6 hl (by decide) rfl (fun ls hl => ?_)
  refine lv_iload_n hx hb dX3_digits_8 rfl (lv_at hl 3 rfl) ?_
  refine lv_istore (lv' := [(5, .int (nI n)), (4, .int (nI (z + (dgs n)))), (0, .ref a), (1, .int (nI fr)), (2, .int (nI n)), (3, .int (nI z))]) hx hb dX3_digits_9 hl (by decide) rfl (fun ls hl => ?_)
  refine lv_iload hx hb dX3_digits_11 (lv_at hl 1 rfl) ?_
  refine lv_iconst (v := nI 1) hx hb dX3_digits_13 (by decide) ?_
  refine lv_isub hx hb dX3_digits_14 ?_
  refine x_rw (z := nI ((z + (dgs n)) - 1)) (pk_sub (by omega)) ?_
  refine lv_istore (lv' := [(6, .int (nI ((z + (dgs n)) - 1))), (5, .int (nI n)), (4, .int (nI (z + (dgs n)))), (0, .ref a), (1, .int (nI fr)), (2, .int (nI n)), (3, .int (nI z))]) hx hb dX3_digits_15 hl (by decide) rfl (fun ls hl => ?_)
  have loop17 : ∀ (fu : Nat) (u : Int32) (r j : Nat) (g : Nat → Int32) (hj : j ≤ z + dgs n) (hu : (0 < j ∧ u = nI (j - 1)) ∨ (j = 0 ∧ u = -1)) (hr1 : r = n / 10 ^ (z + dgs n - j)) (hr2 : r ≤ n) (hg1 : ∀ i, i < fr → g i = fd i) (hg2 : ∀ i, j ≤ i → i < z + dgs n → g (fr + i) = nI (cg (num n z) i)) (H : Heap) (locs : List Loc) (hS : va_S (gA a (a + 1) H0.size) H0 H locs) (hA : gI G a 0 60 g H) (ls : Array Slot), j < fu → lv_has ls 7 [(6, .int u), (5, .int (nI r)), (4, .int (nI (z + (dgs n)))), (3, .int (nI z)), (2, .int (nI n)), (1, .int (nI fr)), (0, .ref a)] → W p l e RMX3_digits s m args below meth c H locs (0 + 0) (0 + 0) (XQ below args s H0 a (a + 1) 0 0 (qI (fun r H1 => r = nI (fr + (z + dgs n)) ∧ ∃ fd2 : Nat → Int32, gI G a 0 60 fd2 H1 ∧ (∀ i, i < fr → fd2 i = fd i) ∧ ∀ i, i < z + dgs n → fd2 (fr + i) = nI (cg (num n z) i))) xN) (F0 m 17 ls []) := by
    intro fu17
    induction fu17 with
    | zero => intro u r j g hj hu hr1 hr2 hg1 hg2 H locs hS hA ls hmu; exact absurd hmu (Nat.not_lt_zero _)
    | succ fu17 ih17 =>
      intro u r j g hj hu hr1 hr2 hg1 hg2 H locs hS hA ls hmu17 hl
      refine lv_iload hx hb dX3_digits_17 (lv_at hl 0 rfl) ?_
      refine lv_if_lt (tgt := 50) hx hb dX3_digits_19 (by decide) (fun c19 => ?_) (fun c19 => ?_)
      · refine lv_iload_n hx hb dX3_digits_50 rfl (lv_at hl 5 rfl) ?_
        refine lv_iload hx hb dX3_digits_51 (lv_at hl 2 rfl) ?_
        refine lv_iadd hx hb dX3_digits_53 ?_
        refine x_rw (z := nI (fr + (z + (dgs n)))) (nI_add _ _) ?_
        exact x_iret hx hb hr hlocks h0 hS (by omega) (by omega) dX3_digits_54 (⟨rfl, _, hA, hg1, fun i h => hg2 i (by have hj1 : j = 0 := (hu.resolve_left (fun h2 => by rw [h2.2] at c19; exact nI_pos (by omega) c19)).1; omega) h⟩)
      · obtain ⟨hj0, rfl⟩ := hu.resolve_right (fun h => by rw [h.2] at c19; exact c19 (by decide))
        refine lv_aload_n hx hb dX3_digits_22 rfl (lv_at hl 6 rfl) ?_
        refine lv_iload_n hx hb dX3_digits_23 rfl (lv_at hl 5 rfl) ?_
        refine lv_iload hx hb dX3_digits_24 (lv_at hl 0 rfl) ?_
        refine lv_iadd hx hb dX3_digits_26 ?_
        refine x_rw (z := nI (fr + (j - 1))) (nI_add _ _) ?_
        refine lv_bipush (v := nI 48) hx hb dX3_digits_27 (by decide) ?_
        refine lv_iload hx hb dX3_digits_29 (lv_at hl 1 rfl) ?_
        refine lv_bipush (v := nI 10) hx hb dX3_digits_31 (by decide) ?_
        refine lv_irem hx hb dX3_digits_33 (by decide) ?_
        refine x_rw (z := nI (r % 10)) (pk_rem (by omega) (by omega) (by omega)) ?_
        refine lv_iadd hx hb dX3_digits_34 ?_
        refine x_rw (z := nI (48 + (r % 10))) (nI_add _ _) ?_
        refine lv_i2c (v := nI (48 + (r % 10))) hx hb dX3_digits_35 (x_i2c (by omega)) ?_
        refine x_cast hx hb hK hA (by omega) (by decide) (by omega) hS (by unfold gA; omega) dX3_digits_36 (fun H2 locs hA hF hz hS => ?_)
        refine lv_iload hx hb dX3_digits_37 (lv_at hl 1 rfl) ?_
        refine lv_bipush (v := nI 10) hx hb dX3_digits_39 (by decide) ?_
        refine lv_idiv hx hb dX3_digits_41 (by decide) ?_
        refine x_rw (z := nI (r / 10)) (pk_div (by omega) (by omega) (by omega)) ?_
        refine lv_istore (lv' := [(5, .int (nI (r / 10))), (6, .int (nI (j - 1))), (4, .int (nI (z + (dgs n)))), (3, .int (nI z)), (2, .int (nI n)), (1, .int (nI fr)), (0, .ref a)]) hx hb dX3_digits_42 hl (by decide) rfl (fun ls hl => ?_)
        refine lv_iinc (v := (nI (j - 1) + Int32.ofInt (-1))) (lv' := [(6, .int (nI (j - 1) + Int32.ofInt (-1))), (5, .int (nI (r / 10))), (4, .int (nI (z + (dgs n)))), (3, .int (nI z)), (2, .int (nI n)), (1, .int (nI fr)), (0, .ref a)]) hx hb dX3_digits_44 hl (k := 1) rfl rfl (by decide) rfl (fun ls hl => ?_)
        refine lv_goto (tgt := 17) hx hb dX3_digits_47 (by decide) ?_
        exact ih17 (nI (j - 1) + Int32.ofInt (-1)) (r / 10) (j - 1) (upd g (fr + (j - 1)) (nI (48 + (r % 10)))) (by omega) (dig_u hj0) (by rw [hr1, Nat.div_div_eq_div_mul, ← Nat.pow_succ]; congr 2; omega) (by omega) (fun i h => by rw [pk_un (by omega)]; exact hg1 i h) (dig_g hj0 hj (num_cg hj0 hj hr1) hg2) H2 _ hS hA ls (by omega) (lv_sub hl [0, 1, 2, 3, 4, 5, 6] rfl)
  exact loop17 _ (nI ((z + (dgs n)) - 1)) n (z + dgs n) fd (by omega) (Or.inl ⟨by omega, rfl⟩) (by rw [Nat.sub_self, Nat.pow_zero, Nat.div_one]) (by omega) (fun i h => rfl) (fun i h1 h2 => absurd h2 (by omega)) H0 _ hS hA ls (Nat.lt_succ_self _) (lv_sub hl [0, 1, 2, 6, 5, 4, 3] rfl)
