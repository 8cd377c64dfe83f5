abbrev RMX2_kindOf : Room := { frames := 1, cells := 0, slots := 0, locals := 12 }
set_option maxHeartbeats 4000000 in
set_option maxRecDepth 100000 in
/-- the kind of a sign -/
theorem c_X2_kindOf (l : Launch) (G : gG) (ch : Nat) (hch : ch < 65536) (H0 : Heap)  : XM l yX2_kindOf wsX2_kindOf RMX2_kindOf G [.int (nI ch)] H0 0 0 0 0 (roI H0 (nI (kd ch)) True) xN := by
  refine x_ofW (cc := cX2_kindOf) (maxL := 1) (ret := (some .int)) (by decide) rfl (Nat.le_of_ble_eq_true rfl) ?_
  intro p e s m below meth c hx hb hr hml hown hts hlocks hout hin2 h0 hE ls hl
  replace hown : s.vm.findClass RX2 = some m.cls := hown
  have hK := hE.1
  have hS : va_S (gA 0 0 H0.size) H0 H0 [] := va_S.rf
  generalize hargs : ([.int (nI ch)] : List Value).toArray = args at hts ⊢
  have hl : lv_has ls 1 [(0, .int (nI ch))] := hl
  refine lv_iload_n hx hb dX2_kindOf_0 rfl (lv_at hl 0 rfl) ?_
  refine lv_bipush (v := nI 48) hx hb dX2_kindOf_1 (by decide) ?_
  refine x_icmp_lt (tgt := 14) hx hb (by omega) (by omega) dX2_kindOf_3 (by decide) (fun c3 => ?_) (fun c3 => ?_)
  · refine lv_iload_n hx hb dX2_kindOf_14 rfl (lv_at hl 0 rfl) ?_
    refine lv_bipush (v := nI 46) hx hb dX2_kindOf_15 (by decide) ?_
    refine x_icmp_eq (tgt := 32) hx hb (by omega) (by omega) dX2_kindOf_17 (by decide) (fun c17 => ?_) (fun c17 => ?_)
    · refine lv_iconst (v := nI 0) hx hb dX2_kindOf_32 (by decide) ?_
      refine lv_goto (tgt := 37) hx hb dX2_kindOf_33 (by decide) ?_
      exact x_iret hx hb hr hlocks h0 hS (by omega) (by omega) dX2_kindOf_37 (⟨rfl, by rw [kd_joint (c := ch) (by omega)], trivial⟩)
    · refine lv_iload_n hx hb dX2_kindOf_20 rfl (lv_at hl 0 rfl) ?_
      refine lv_bipush (v := nI 45) hx hb dX2_kindOf_21 (by decide) ?_
      refine x_icmp_eq (tgt := 32) hx hb (by omega) (by omega) dX2_kindOf_23 (by decide) (fun c23 => ?_) (fun c23 => ?_)
      · refine lv_iconst (v := nI 0) hx hb dX2_kindOf_32 (by decide) ?_
        refine lv_goto (tgt := 37) hx hb dX2_kindOf_33 (by decide) ?_
        exact x_iret hx hb hr hlocks h0 hS (by omega) (by omega) dX2_kindOf_37 (⟨rfl, by rw [kd_joint (c := ch) (by omega)], trivial⟩)
      · refine lv_iload_n hx hb dX2_kindOf_26 rfl (lv_at hl 0 rfl) ?_
        refine lv_bipush (v := nI 43) hx hb dX2_kindOf_27 (by decide) ?_
        refine x_icmp_ne (tgt := 36) hx hb (by omega) (by omega) dX2_kindOf_29 (by decide) (fun c29 => ?_) (fun c29 => ?_)
        · refine lv_iconst (v := nI 2) hx hb dX2_kindOf_36 (by decide) ?_
          exact x_iret hx hb hr hlocks h0 hS (by omega) (by omega) dX2_kindOf_37 (⟨rfl, by rw [kd_letter (c := ch) (by omega) (by omega) (by omega) (by omega)], trivial⟩)
        · refine lv_iconst (v := nI 0) hx hb dX2_kindOf_32 (by decide) ?_
          refine lv_goto (tgt := 37) hx hb dX2_kindOf_33 (by decide) ?_
          exact x_iret hx hb hr hlocks h0 hS (by omega) (by omega) dX2_kindOf_37 (⟨rfl, by rw [kd_joint (c := ch) (by omega)], trivial⟩)
  · refine lv_iload_n hx hb dX2_kindOf_6 rfl (lv_at hl 0 rfl) ?_
    refine lv_bipush (v := nI 57) hx hb dX2_kindOf_7 (by decide) ?_
    refine x_icmp_gt (tgt := 14) hx hb (by omega) (by omega) dX2_kindOf_9 (by decide) (fun c9 => ?_) (fun c9 => ?_)
    · refine lv_iload_n hx hb dX2_kindOf_14 rfl (lv_at hl 0 rfl) ?_
      refine lv_bipush (v := nI 46) hx hb dX2_kindOf_15 (by decide) ?_
      refine x_icmp_eq (tgt := 32) hx hb (by omega) (by omega) dX2_kindOf_17 (by decide) (fun c17 => ?_) (fun c17 => ?_)
      · refine lv_iconst (v := nI 0) hx hb dX2_kindOf_32 (by decide) ?_
        refine lv_goto (tgt := 37) hx hb dX2_kindOf_33 (by decide) ?_
        exact x_iret hx hb hr hlocks h0 hS (by omega) (by omega) dX2_kindOf_37 (⟨rfl, by rw [kd_joint (c := ch) (by omega)], trivial⟩)
      · refine lv_iload_n hx hb dX2_kindOf_20 rfl (lv_at hl 0 rfl) ?_
        refine lv_bipush (v := nI 45) hx hb dX2_kindOf_21 (by decide) ?_
        refine x_icmp_eq (tgt := 32) hx hb (by omega) (by omega) dX2_kindOf_23 (by decide) (fun c23 => ?_) (fun c23 => ?_)
        · refine lv_iconst (v := nI 0) hx hb dX2_kindOf_32 (by decide) ?_
          refine lv_goto (tgt := 37) hx hb dX2_kindOf_33 (by decide) ?_
          exact x_iret hx hb hr hlocks h0 hS (by omega) (by omega) dX2_kindOf_37 (⟨rfl, by rw [kd_joint (c := ch) (by omega)], trivial⟩)
        · refine lv_iload_n hx hb dX2_kindOf_26 rfl (lv_at hl 0 rfl) ?_
          refine lv_bipush (v := nI 43) hx hb dX2_kindOf_27 (by decide) ?_
          refine x_icmp_ne (tgt := 36) hx hb (by omega) (by omega) dX2_kindOf_29 (by decide) (fun c29 => ?_) (fun c29 => ?_)
          · refine lv_iconst (v := nI 2) hx hb dX2_kindOf_36 (by decide) ?_
            exact x_iret hx hb hr hlocks h0 hS (by omega) (by omega) dX2_kindOf_37 (⟨rfl, by rw [kd_letter (c := ch) (by omega) (by omega) (by omega) (by omega)], trivial⟩)
          · refine lv_iconst (v := nI 0) hx hb dX2_kindOf_32 (by decide) ?_
            refine lv_goto (tgt := 37) hx hb dX2_kindOf_33 (by decide) ?_
            exact x_iret hx hb hr hlocks h0 hS (by omega) (by omega) dX2_kindOf_37 (⟨rfl, by rw [kd_joint (c := ch) (by omega)], trivial⟩)
    · refine lv_iconst (v := nI 1) hx hb dX2_kindOf_12 (by decide) ?_
      exact x_iret hx hb hr hlocks h0 hS (by omega) (by omega) dX2_kindOf_13 (⟨rfl, by rw [kd_digit (c := ch) (by omega) (by omega)], trivial⟩)

abbrev RMX2_letterOf : Room := { frames := 1, cells := 0, slots := 0, locals := 12 }
set_option maxHeartbeats 4000000 in
set_option maxRecDepth 100000 in
/-- a letter -/
theorem c_X2_letterOf (l : Launch) (G : gG) (r : Nat) (hr52 : r < 52) (H0 : Heap)  : XM l yX2_letterOf wsX2_letterOf RMX2_letterOf G [.int (nI r)] H0 0 0 0 0 (roI H0 (nI (ltr r)) True) xN := by
  refine x_ofW (cc := cX2_letterOf) (maxL := 1) (ret := (some .char)) (by decide) rfl (Nat.le_of_ble_eq_true rfl) ?_
  intro p e s m below meth c hx hb hr hml hown hts hlocks hout hin2 h0 hE ls hl
  replace hown : s.vm.findClass RX2 = some m.cls := hown
  have hK := hE.1
  have hS : va_S (gA 0 0 H0.size) H0 H0 [] := va_S.rf
  generalize hargs : ([.int (nI r)] : List Value).toArray = args at hts ⊢
  have hl : lv_has ls 1 [(0, .int (nI r))] := hl
  refine lv_iload_n hx hb dX2_letterOf_0 rfl (lv_at hl 0 rfl) ?_
  refine lv_bipush (v := nI 26) hx hb dX2_letterOf_1 (by decide) ?_
  refine x_icmp_ge (tgt := 14) hx hb (by omega) (by omega) dX2_letterOf_3 (by decide) (fun c3 => ?_) (fun c3 => ?_)
  · refine lv_bipush (v := nI 65) hx hb dX2_letterOf_14 (by decide) ?_
    refine lv_iload_n hx hb dX2_letterOf_16 rfl (lv_at hl 0 rfl) ?_
    refine lv_iadd hx hb dX2_letterOf_17 ?_
    refine x_rw (z := nI (65 + r)) (nI_add _ _) ?_
    refine lv_bipush (v := nI 26) hx hb dX2_letterOf_18 (by decide) ?_
    refine lv_isub hx hb dX2_letterOf_20 ?_
    refine x_rw (z := nI ((65 + r) - 26)) (pk_sub (by omega)) ?_
    refine lv_i2c (v := nI ((65 + r) - 26)) hx hb dX2_letterOf_21 (x_i2c (by omega)) ?_
    exact x_zret hx hb hr hlocks h0 hS (by omega) (by omega) dX2_letterOf_22 (x_charN (by omega)) (⟨rfl, by rw [ltr_hi (r := r) (by omega)], trivial⟩)
  · refine lv_bipush (v := nI 97) hx hb dX2_letterOf_6 (by decide) ?_
    refine lv_iload_n hx hb dX2_letterOf_8 rfl (lv_at hl 0 rfl) ?_
    refine lv_iadd hx hb dX2_letterOf_9 ?_
    refine x_rw (z := nI (97 + r)) (nI_add _ _) ?_
    refine lv_i2c (v := nI (97 + r)) hx hb dX2_letterOf_10 (x_i2c (by omega)) ?_
    refine lv_goto (tgt := 22) hx hb dX2_letterOf_11 (by decide) ?_
    exact x_zret hx hb hr hlocks h0 hS (by omega) (by omega) dX2_letterOf_22 (x_charN (by omega)) (⟨rfl, by rw [ltr_lo (r := r) (by omega)], trivial⟩)

abbrev RMX2_orderOfNumbers : Room := { frames := 1, cells := 0, slots := 0, locals := 12 }
set_option maxHeartbeats 4000000 in
set_option maxRecDepth 100000 in
/-- the order of two numbers -/
theorem c_X2_orderOfNumbers (l : Launch) (G : gG) (x y : Int32) (H0 : Heap)  : XM l yX2_orderOfNumbers wsX2_orderOfNumbers RMX2_orderOfNumbers G [.int x, .int y] H0 0 0 0 0 (roI H0 (oI x y) True) xN := by
  refine x_ofW (cc := cX2_orderOfNumbers) (maxL := 2) (ret := (some .int)) (by decide) rfl (Nat.le_of_ble_eq_true rfl) ?_
  intro p e s m below meth c hx hb hr hml hown hts hlocks hout hin2 h0 hE ls hl
  replace hown : s.vm.findClass RX2 = some m.cls := hown
  have hK := hE.1
  have hS : va_S (gA 0 0 H0.size) H0 H0 [] := va_S.rf
  generalize hargs : ([.int x, .int y] : List Value).toArray = args at hts ⊢
  have hl : lv_has ls 2 [(0, .int x), (1, .int y)] := hl
  refine lv_iload_n hx hb dX2_orderOfNumbers_0 rfl (lv_at hl 0 rfl) ?_
  refine lv_iload_n hx hb dX2_orderOfNumbers_1 rfl (lv_at hl 1 rfl) ?_
  refine lv_icmp_ne (tgt := 7) hx hb dX2_orderOfNumbers_2 (by decide) (fun c2 => ?_) (fun c2 => ?_)
  · refine lv_iload_n hx hb dX2_orderOfNumbers_7 rfl (lv_at hl 0 rfl) ?_
    refine lv_iload_n hx hb dX2_orderOfNumbers_8 rfl (lv_at hl 1 rfl) ?_
    refine lv_icmp_ge (tgt := 16) hx hb dX2_orderOfNumbers_9 (by decide) (fun c9 => ?_) (fun c9 => ?_)
    · refine lv_iconst (v := nI 1) hx hb dX2_orderOfNumbers_16 (by decide) ?_
      exact x_iret hx hb hr hlocks h0 hS (by omega) (by omega) dX2_orderOfNumbers_17 (⟨rfl, by unfold oI; rw [if_neg c2, if_neg (Int32.not_lt.mpr c9)]; rfl, trivial⟩)
    · refine lv_iconst (v := (-1)) hx hb dX2_orderOfNumbers_12 (by decide) ?_
      refine lv_goto (tgt := 17) hx hb dX2_orderOfNumbers_13 (by decide) ?_
      exact x_iret hx hb hr hlocks h0 hS (by omega) (by omega) dX2_orderOfNumbers_17 (⟨rfl, by unfold oI; rw [if_neg c2, if_pos (Int32.not_le.mp c9)], trivial⟩)
  · refine lv_iconst (v := nI 0) hx hb dX2_orderOfNumbers_5 (by decide) ?_
    exact x_iret hx hb hr hlocks h0 hS (by omega) (by omega) dX2_orderOfNumbers_6 (⟨rfl, by unfold oI; rw [if_pos c2]; rfl, trivial⟩)

abbrev RMX2_digitsOf : Room := { frames := 1, cells := 0, slots := 0, locals := 12 }
set_option maxHeartbeats 4000000 in
set_option maxRecDepth 100000 in
/-- how many digits -/
theorem c_X2_digitsOf (l : Launch) (G : gG) (n : Nat) (hn31 : n < 2147483648) (H0 : Heap)  : XM l yX2_digitsOf wsX2_digitsOf RMX2_digitsOf G [.int (nI n)] H0 0 0 0 0 (roI H0 (nI (dgs n)) True) xN := by
  refine x_ofW (cc := cX2_digitsOf) (maxL := 3) (ret := (some .int)) (by decide) rfl (Nat.le_of_ble_eq_true rfl) ?_
  intro p e s m below meth c hx hb hr hml hown hts hlocks hout hin2 h0 hE ls hl
  replace hown : s.vm.findClass RX2 = some m.cls := hown
  have hK := hE.1
  have hS : va_S (gA 0 0 H0.size) H0 H0 [] := va_S.rf
  generalize hargs : ([.int (nI n)] : List Value).toArray = args at hts ⊢
  have hl : lv_has ls 3 [(0, .int (nI n))] := hl
  refine lv_iconst (v := nI 1) hx hb dX2_digitsOf_0 (by decide) ?_
  refine lv_istore_n (lv' := [(1, .int (nI 1)), (0, .int (nI n))]) hx hb dX2_digitsOf_1 rfl hl (by decide) rfl (fun ls hl => ?_)
  refine lv_iload_n hx hb dX2_digitsOf_2 rfl (lv_at hl 1 rfl) ?_
  refine lv_istore_n (lv' := [(2, .int (nI n)), (1, .int (nI 1)), (0, .int (nI n))]) hx hb dX2_digitsOf_3 rfl hl (by decide) rfl (fun ls hl => ?_)
  have loop4 : ∀ (fu : Nat) (k r : Nat) (hk : k + dgs r = dgs n + 1) (hr0 : r ≤ n) (locs : List Loc) (hS : va_S (gA 0 0 H0.size) H0 H0 locs) (ls : Array Slot), r < fu → lv_has ls 3 [(2, .int (nI r)), (1, .int (nI k)), (0, .int (nI n))] → W p l e RMX2_digitsOf s m args below meth c H0 locs 0 0 (XQ below args s H0 0 0 0 0 (roI H0 (nI (dgs n)) True) xN) (F0 m 4 ls []) := by
    intro fu4
    induction fu4 with
    | zero => intro k r hk hr0 locs hS  ls hmu; exact absurd hmu (Nat.not_lt_zero _)
    | succ fu4 ih4 =>
      intro k r hk hr0 locs hS  ls hmu4 hl
      refine lv_iload_n hx hb dX2_digitsOf_4 rfl (lv_at hl 0 rfl) ?_
      refine lv_bipush (v := nI 10) hx hb dX2_digitsOf_5 (by decide) ?_
      refine x_icmp_lt (tgt := 21) hx hb (by omega) (by omega) dX2_digitsOf_7 (by decide) (fun c7 => ?_) (fun c7 => ?_)
      · refine lv_iload_n hx hb dX2_digitsOf_21 rfl (lv_at hl 1 rfl) ?_
        exact x_iret hx hb hr hlocks h0 hS (by omega) (by omega) dX2_digitsOf_22 (⟨rfl, by rw [dgs_small (n := r) (by omega)] at hk; exact congrArg nI (by omega), trivial⟩)
      · refine lv_iinc (v := nI (k + 1)) (lv' := [(1, .int (nI (k + 1))), (2, .int (nI r)), (0, .int (nI n))]) hx hb dX2_digitsOf_10 hl (k := 1) rfl (nI_1 _) (by decide) rfl (fun ls hl => ?_)
        refine lv_iload_n hx hb dX2_digitsOf_13 rfl (lv_at hl 1 rfl) ?_
        refine lv_bipush (v := nI 10) hx hb dX2_digitsOf_14 (by decide) ?_
        refine lv_idiv hx hb dX2_digitsOf_16 (by decide) ?_
        refine x_rw (z := nI (r / 10)) (pk_div (by omega) (by omega) (by omega)) ?_
        refine lv_istore_n (lv' := [(2, .int (nI (r / 10))), (1, .int (nI (k + 1))), (0, .int (nI n))]) hx hb dX2_digitsOf_17 rfl hl (by decide) rfl (fun ls hl => ?_)
        refine lv_goto (tgt := 4) hx hb dX2_digitsOf_18 (by decide) ?_
        exact ih4 (k + 1) (r / 10) (by rw [dgs_step (n := r) (by omega)] at hk; omega) (by omega) _ hS ls (by omega) (lv_sub hl [0, 1, 2] rfl)
  exact loop4 _ 1 n (by omega) (by omega) _ hS ls (Nat.lt_succ_self _) (lv_sub hl [0, 1, 2] rfl)

abbrev RMX0_length : Room := { frames := 1, cells := 0, slots := 0, locals := 12 }
set_option maxHeartbeats 4000000 in
set_option maxRecDepth 100000 in
theorem c_X0_length (l : Launch) (G : gG) (a : Nat) (L : List Nat) (H0 : Heap) (hT : Tx G a L H0) : XM l yX0_length wsX0_length RMX0_length G [.ref a] H0 0 0 0 0 (roI H0 (nI L.length) True) xN := by
  refine x_ofW (cc := cX0_length) (maxL := 1) (ret := (some .int)) (by decide) rfl (Nat.le_of_ble_eq_true rfl) ?_
  intro p e s m below meth c hx hb hr hml hown hts hlocks hout hin2 h0 hE ls hl
  replace hown : s.vm.findClass RX0 = some m.cls := hown
  have hK := hE.1
  have hS : va_S (gA 0 0 H0.size) H0 H0 [] := va_S.rf
  generalize hargs : ([.ref a] : List Value).toArray = args at hts ⊢
  have hw0 := hts (.fieldLink RX0 15 "Releaseledger$Text" "count" "I") (by decide +kernel)
  have hw1 : ∀ w ∈ u_ws RX0 TX0 2, w ∈ wsX0_length := by decide +kernel
  have hl : lv_has ls 1 [(0, .ref a)] := hl
  obtain ⟨f, hO, hA, hf, hn, hch⟩ := id hT
  refine lv_aload_n hx hb dX0_length_0 rfl (lv_at hl 0 rfl) ?_
  refine x_get (ci := 0) hx hb hts hown hK rfl hw1 1 (by decide) hw0 hO rfl dX0_length_1 ?_
  exact x_iret hx hb hr hlocks h0 hS (by omega) (by omega) dX0_length_4 (⟨rfl, rfl, trivial⟩)

abbrev RMX0_signAt : Room := { frames := 1, cells := 0, slots := 0, locals := 12 }
set_option maxHeartbeats 4000000 in
set_option maxRecDepth 100000 in
/-- a sign of the text -/
theorem c_X0_signAt (l : Launch) (G : gG) (a : Nat) (L : List Nat) (i : Nat) (hi : i < L.length) (H0 : Heap) (hT : Tx G a L H0) : XM l yX0_signAt wsX0_signAt RMX0_signAt G [.ref a, .int (nI i)] H0 0 0 0 0 (roI H0 (nI (cg L i)) True) xN := by
  refine x_ofW (cc := cX0_signAt) (maxL := 2) (ret := (some .char)) (by decide) rfl (Nat.le_of_ble_eq_true rfl) ?_
  intro p e s m below meth c hx hb hr hml hown hts hlocks hout hin2 h0 hE ls hl
  replace hown : s.vm.findClass RX0 = some m.cls := hown
  have hK := hE.1
  have hS : va_S (gA 0 0 H0.size) H0 H0 [] := va_S.rf
  generalize hargs : ([.ref a, .int (nI i)] : List Value).toArray = args at hts ⊢
  have hw0 := hts (.fieldLink RX0 15 "Releaseledger$Text" "count" "I") (by decide +kernel)
  have hw1 : ∀ w ∈ u_ws RX0 TX0 2, w ∈ wsX0_signAt := by decide +kernel
  have hw2 := hts (.fieldLink RX0 9 "Releaseledger$Text" "signs" "[C") (by decide +kernel)
  have hl : lv_has ls 2 [(0, .ref a), (1, .int (nI i))] := hl
  obtain ⟨f, hO, hA, hf, hn, hch⟩ := id hT
  refine lv_iload_n hx hb dX0_signAt_0 rfl (lv_at hl 1 rfl) ?_
  refine x_if_ltN (tgt := 21) hx hb (by omega) dX0_signAt_1 (by decide) ?_
  refine lv_iload_n hx hb dX0_signAt_4 rfl (lv_at hl 1 rfl) ?_
  refine lv_aload_n hx hb dX0_signAt_5 rfl (lv_at hl 0 rfl) ?_
  refine x_get (ci := 0) hx hb hts hown hK rfl hw1 1 (by decide) hw0 hO rfl dX0_signAt_6 ?_
  refine x_icmp_ge (tgt := 21) hx hb (by omega) (by omega) dX0_signAt_9 (by decide) (fun c9 => ?_) (fun c9 => ?_)
  · exact absurd c9 (by omega)
  · refine lv_aload_n hx hb dX0_signAt_12 rfl (lv_at hl 0 rfl) ?_
    refine x_get (ci := 0) hx hb hts hown hK rfl hw1 0 (by decide) hw2 hO rfl dX0_signAt_13 ?_
    refine lv_iload_n hx hb dX0_signAt_16 rfl (lv_at hl 1 rfl) ?_
    refine x_cald hx hb hK hA (by omega) (by decide) dX0_signAt_17 ?_
    refine x_rw (z := (nI (cg L i))) (hf _ (by omega)) ?_
    refine lv_goto (tgt := 23) hx hb dX0_signAt_18 (by decide) ?_
    have hcl := hch _ (cg_mem hi)
    exact x_zret hx hb hr hlocks h0 hS (by omega) (by omega) dX0_signAt_23 (x_charN (by omega)) (⟨rfl, rfl, trivial⟩)

abbrev RMX0_clear : Room := { frames := 1, cells := 0, slots := 0, locals := 12 }
set_option maxHeartbeats 4000000 in
set_option maxRecDepth 100000 in
theorem c_X0_clear (l : Launch) (G : gG) (a : Nat) (L : List Nat) (H0 : Heap) (hT : Tx G a L H0) : XM l yX0_clear wsX0_clear RMX0_clear G [.ref a] H0 a (a + 2) 0 0 (qV (fun H1 => Tx G a [] H1)) xN := by
  refine x_ofW (cc := cX0_clear) (maxL := 1) (ret := none) (by decide) rfl (Nat.le_of_ble_eq_true rfl) ?_
  intro p e s m below meth c hx hb hr hml hown hts hlocks hout hin2 h0 hE ls hl
  replace hown : s.vm.findClass RX0 = some m.cls := hown
  have hK := hE.1
  have hS : va_S (gA a (a + 2) H0.size) H0 H0 [] := va_S.rf
  generalize hargs : ([.ref a] : List Value).toArray = args at hts ⊢
  have hw0 := hts (.fieldLink RX0 15 "Releaseledger$Text" "count" "I") (by decide +kernel)
  have hw1 : ∀ w ∈ u_ws RX0 TX0 2, w ∈ wsX0_clear := by decide +kernel
  have hl : lv_has ls 1 [(0, .ref a)] := hl
  obtain ⟨f, hO, hA, hf, hn, hch⟩ := id hT
  refine lv_aload_n hx hb dX0_clear_0 rfl (lv_at hl 0 rfl) ?_
  refine lv_iconst (v := nI 0) hx hb dX0_clear_1 (by decide) ?_
  refine x_put (ci := 0) hx hb hts hown hK rfl hw1 tyX0_ok nmX0 1 (by decide) hw0 rfl (tyX0_ok 1 (by decide)) rfl rfl hO (Nat.le_of_ble_eq_true rfl) hS (by unfold gA; omega) dX0_clear_2 (fun H1 locs hO hF hz hS => ?_)
  have hO : gO G a 0 [.ref (a + 1), .int (nI 0)] H1 := hO
  have hA := hA.fr hF (by omega)
  exact x_vret hx hb hr hlocks h0 hS (by omega) (by omega) dX0_clear_5 (⟨f, hO, hA, fun i h => absurd h (Nat.not_lt_zero _), by decide, fun c h => absurd h List.not_mem_nil⟩)

abbrev RMX0_put : Room := { frames := 1, cells := 0, slots := 0, locals := 12 }
set_option maxHeartbeats 4000000 in
set_option maxRecDepth 100000 in
/-- a sign behind -/
theorem c_X0_put (l : Launch) (G : gG) (a : Nat) (L : List Nat) (ch : Nat) (hlen : L.length < 60) (hc : ch < 65536) (H0 : Heap) (hT : Tx G a L H0) : XM l yX0_put wsX0_put RMX0_put G [.ref a, .int (nI ch)] H0 a (a + 2) 0 0 (qV (fun H1 => Tx G a (L ++ [ch]) H1)) xN := by
  refine x_ofW (cc := cX0_put) (maxL := 2) (ret := none) (by decide) rfl (Nat.le_of_ble_eq_true rfl) ?_
  intro p e s m below meth c hx hb hr hml hown hts hlocks hout hin2 h0 hE ls hl
  replace hown : s.vm.findClass RX0 = some m.cls := hown
  have hK := hE.1
  have hS : va_S (gA a (a + 2) H0.size) H0 H0 [] := va_S.rf
  generalize hargs : ([.ref a, .int (nI ch)] : List Value).toArray = args at hts ⊢
  have hw0 := hts (.fieldLink RX0 15 "Releaseledger$Text" "count" "I") (by decide +kernel)
  have hw1 : ∀ w ∈ u_ws RX0 TX0 2, w ∈ wsX0_put := by decide +kernel
  have hw2 := hts (.fieldLink RX0 9 "Releaseledger$Text" "signs" "[C") (by decide +kernel)
  have hl : lv_has ls 2 [(0, .ref a), (1, .int (nI ch))] := hl
  obtain ⟨f, hO, hA, hf, hn, hch⟩ := id hT
  refine lv_aload_n hx hb dX0_put_0 rfl (lv_at hl 0 rfl) ?_
  refine x_get (ci := 0) hx hb hts hown hK rfl hw1 1 (by decide) hw0 hO rfl dX0_put_1 ?_
  refine lv_bipush (v := nI 60) hx hb dX0_put_4 (by decide) ?_
  refine x_icmp_ge (tgt := 29) hx hb (by omega) (by omega) dX0_put_6 (by decide) (fun c6 => ?_) (fun c6 => ?_)
  · exact absurd c6 (by omega)
  · refine lv_aload_n hx hb dX0_put_9 rfl (lv_at hl 0 rfl) ?_
    refine x_get (ci := 0) hx hb hts hown hK rfl hw1 0 (by decide) hw2 hO rfl dX0_put_10 ?_
    refine lv_aload_n hx hb dX0_put_13 rfl (lv_at hl 0 rfl) ?_
    refine x_get (ci := 0) hx hb hts hown hK rfl hw1 1 (by decide) hw0 hO rfl dX0_put_14 ?_
    refine lv_iload_n hx hb dX0_put_17 rfl (lv_at hl 1 rfl) ?_
    refine x_cast hx hb hK hA (by omega) (by decide) (by omega) hS (by unfold gA; omega) dX0_put_18 (fun H1 locs hA hF hz hS => ?_)
    have hO := hO.fr hF (by omega)
    refine lv_aload_n hx hb dX0_put_19 rfl (lv_at hl 0 rfl) ?_
    refine lv_dup hx hb dX0_put_20 rfl ?_
    refine x_get (ci := 0) hx hb hts hown hK rfl hw1 1 (by decide) hw0 hO rfl dX0_put_21 ?_
    refine lv_iconst (v := nI 1) hx hb dX0_put_24 (by decide) ?_
    refine lv_iadd hx hb dX0_put_25 ?_
    refine x_rw (z := nI (L.length + 1)) (nI_add _ _) ?_
    refine x_put (ci := 0) hx hb hts hown hK rfl hw1 tyX0_ok nmX0 1 (by decide) hw0 rfl (tyX0_ok 1 (by decide)) rfl rfl hO (Nat.le_of_ble_eq_true rfl) hS (by unfold gA; omega) dX0_put_26 (fun H2 locs hO hF hz hS => ?_)
    have hO : gO G a 0 [.ref (a + 1), .int (nI (L.length + 1))] H2 := hO
    have hA := hA.fr hF (by omega)
    exact x_vret hx hb hr hlocks h0 hS (by omega) (by omega) dX0_put_29 (Tx.put hO hA hf hlen hch hc)

abbrev RMX0_putAll : Room := { frames := 2, cells := 0, slots := 0, locals := 33 }
set_option maxHeartbeats 4000000 in
set_option maxRecDepth 100000 in
/-- another text behind -/
theorem c_X0_putAll (l : Launch) (G : gG) (a o : Nat) (L T : List Nat) (hd : a + 2 ≤ o ∨ o + 2 ≤ a) (hlen : L.length + T.length ≤ 60) (H0 : Heap) (hT : Tx G a L H0) (hM : Tx G o T H0) : XM l yX0_putAll wsX0_putAll RMX0_putAll G [.ref a, .ref o] H0 a (a + 2) 0 0 (qV (fun H1 => Tx G a (L ++ T) H1)) xN := by
  refine x_ofW (cc := cX0_putAll) (maxL := 3) (ret := none) (by decide) rfl (Nat.le_of_ble_eq_true rfl) ?_
  intro p e s m below meth c hx hb hr hml hown hts hlocks hout hin2 h0 hE ls hl
  replace hown : s.vm.findClass RX0 = some m.cls := hown
  have hK := hE.1
  have hS : va_S (gA a (a + 2) H0.size) H0 H0 [] := va_S.rf
  generalize hargs : ([.ref a, .ref o] : List Value).toArray = args at hts ⊢
  have hl : lv_has ls 3 [(0, .ref a), (1, .ref o)] := hl
  replace hT : Tx G a (L ++ T.take 0) H0 := by rw [List.take_zero, List.append_nil]; exact hT
  refine lv_iconst (v := nI 0) hx hb dX0_putAll_0 (by decide) ?_
  refine lv_istore_n (lv' := [(2, .int (nI 0)), (0, .ref a), (1, .ref o)]) hx hb dX0_putAll_1 rfl hl (by decide) rfl (fun ls hl => ?_)
  have loop2 : ∀ (fu : Nat) (i : Nat) (hi : i ≤ T.length) (H : Heap) (locs : List Loc) (hS : va_S (gA a (a + 2) H0.size) H0 H locs) (hT : Tx G a (L ++ T.take i) H) (hM : Tx G o T H) (ls : Array Slot), T.length - i < fu → lv_has ls 3 [(2, .int (nI i)), (0, .ref a), (1, .ref o)] → W p l e RMX0_putAll s m args below meth c H locs 0 0 (XQ below args s H0 a (a + 2) 0 0 (qV (fun H1 => Tx G a (L ++ T) H1)) xN) (F0 m 2 ls []) := by
    intro fu2
    induction fu2 with
    | zero => intro i hi H locs hS hT hM ls hmu; exact absurd hmu (Nat.not_lt_zero _)
    | succ fu2 ih2 =>
      intro i hi H locs hS hT hM ls hmu2 hl
      refine lv_iload_n hx hb dX0_putAll_2 rfl (lv_at hl 0 rfl) ?_
      refine lv_aload_n hx hb dX0_putAll_3 rfl (lv_at hl 2 rfl) ?_
      refine x_goI_ro (x_runV (As := []) (rest := [.int (nI i)]) ⟨hx, hb, hml, hown, hts⟩ hE h0 hS (c_X0_length l G o T H hM) (cwV 0 hts gX0_putAll_X0_length rfl rfl rfl (by decide +kernel) ⟨Nat.le_of_ble_eq_true rfl, Nat.le_of_ble_eq_true rfl⟩) (hM.recv hK) (by omega) rfl rfl hl.1 rfl (lv_room (Nat.le_of_ble_eq_true rfl)) dX0_putAll_4 ⟨by first | exact Nat.le_of_ble_eq_true rfl | omega, by first | exact Nat.le_of_ble_eq_true rfl | omega⟩) hS (by omega) (fun _ _ _ _ _ h => h.elim) (fun locs hq hS => ?_)
      refine x_icmp_ge (tgt := 25) hx hb (by omega) (by omega) dX0_putAll_7 (by decide) (fun c7 => ?_) (fun c7 => ?_)
      · exact x_vret hx hb hr hlocks h0 hS (by omega) (by omega) dX0_putAll_25 (by rw [List.take_of_length_le (by omega)] at hT; exact hT)
      · refine lv_aload_n hx hb dX0_putAll_10 rfl (lv_at hl 1 rfl) ?_
        refine lv_aload_n hx hb dX0_putAll_11 rfl (lv_at hl 2 rfl) ?_
        refine lv_iload_n hx hb dX0_putAll_12 rfl (lv_at hl 0 rfl) ?_
        refine x_goI_ro (x_runV (As := [.int (nI i)]) (rest := [.ref a]) ⟨hx, hb, hml, hown, hts⟩ hE h0 hS (c_X0_signAt l G o T i (by omega) H hM) (cwV 1 hts gX0_putAll_X0_signAt rfl rfl rfl (by decide +kernel) ⟨Nat.le_of_ble_eq_true rfl, Nat.le_of_ble_eq_true rfl⟩) (hM.recv hK) (by omega) rfl rfl hl.1 rfl (lv_room (Nat.le_of_ble_eq_true rfl)) dX0_putAll_13 ⟨by first | exact Nat.le_of_ble_eq_true rfl | omega, by first | exact Nat.le_of_ble_eq_true rfl | omega⟩) hS (by omega) (fun _ _ _ _ _ h => h.elim) (fun locs hq hS => ?_)
        have hcl := hM.cg_lt (i := i) (by omega)
        refine x_goV (x_runV (As := [.int (nI (cg T i))]) (rest := []) ⟨hx, hb, hml, hown, hts⟩ hE h0 hS (c_X0_put l G a (L ++ T.take i) (cg T i) (by rw [List.length_append, List.length_take]; omega) hcl H hT) (cwV 1 hts gX0_putAll_X0_put rfl rfl rfl (by decide +kernel) ⟨Nat.le_of_ble_eq_true rfl, Nat.le_of_ble_eq_true rfl⟩) (hT.recv hK) (by omega) rfl rfl hl.1 rfl (lv_room (Nat.le_of_ble_eq_true rfl)) dX0_putAll_16 ⟨by first | exact Nat.le_of_ble_eq_true rfl | omega, by first | exact Nat.le_of_ble_eq_true rfl | omega⟩) hS (by omega) (fun _ _ _ _ _ h => h.elim) (fun  H3 locs hq hF hS => ?_)
        have hM := hM.fr hF (by omega)
        have hT : Tx G a (L ++ T.take (i + 1)) H3 := by rw [take_succ_cg (by omega), ← List.append_assoc]; exact hq
        refine lv_iinc (v := nI (i + 1)) (lv' := [(2, .int (nI (i + 1))), (0, .ref a), (1, .ref o)]) hx hb dX0_putAll_19 hl (k := 0) rfl (nI_1 _) (by decide) rfl (fun ls hl => ?_)
        refine lv_goto (tgt := 2) hx hb dX0_putAll_22 (by decide) ?_
        exact ih2 (i + 1) (by omega) H3 _ hS hT hM ls (by omega) (lv_sub hl [0, 1, 2] rfl)
  exact loop2 _ 0 (by omega) H0 _ hS hT hM ls (Nat.lt_succ_self _) (lv_sub hl [0, 1, 2] rfl)

abbrev RMX0_putNumber : Room := { frames := 2, cells := 0, slots := 0, locals := 33 }
set_option maxHeartbeats 4000000 in
set_option maxRecDepth 100000 in
/-- zeros and digits behind -/
theorem c_X0_putNumber (l : Launch) (G : gG) (a : Nat) (L : List Nat) (n z : Nat) (hn9 : n < 1000000000) (hz : z ≤ 60) (hlen : L.length + z + dgs n ≤ 60) (H0 : Heap) (hT : Tx G a L H0) : XM l yX0_putNumber wsX0_putNumber RMX0_putNumber G [.ref a, .int (nI n), .int (nI z)] H0 a (a + 2) 0 0 (qV (fun H1 => Tx G a (L ++ List.replicate z 48 ++ dg n) H1)) xN := by
  refine x_ofW (cc := cX0_putNumber) (maxL := 4) (ret := none) (by decide) rfl (Nat.le_of_ble_eq_true rfl) ?_
  intro p e s m below meth c hx hb hr hml hown hts hlocks hout hin2 h0 hE ls hl
  replace hown : s.vm.findClass RX0 = some m.cls := hown
  have hK := hE.1
  have hS : va_S (gA a (a + 2) H0.size) H0 H0 [] := va_S.rf
  generalize hargs : ([.ref a, .int (nI n), .int (nI z)] : List Value).toArray = args at hts ⊢
  have hw0 := hts (.constant RX0 31 (100000000)) (by decide +kernel)
  have hl : lv_has ls 4 [(0, .ref a), (1, .int (nI n)), (2, .int (nI z))] := hl
  replace hT : Tx G a (L ++ List.replicate 0 48) H0 := by rw [List.replicate_zero, List.append_nil]; exact hT
  refine lv_iconst (v := nI 0) hx hb dX0_putNumber_0 (by decide) ?_
  refine lv_istore_n (lv' := [(3, .int (nI 0)), (0, .ref a), (1, .int (nI n)), (2, .int (nI z))]) hx hb dX0_putNumber_1 rfl hl (by decide) rfl (fun ls hl => ?_)
  have loop2 : ∀ (fu : Nat) (i : Nat) (hi : i ≤ z) (H : Heap) (locs : List Loc) (hS : va_S (gA a (a + 2) H0.size) H0 H locs) (hT : Tx G a (L ++ List.replicate i 48) H) (ls : Array Slot), z - i < fu → lv_has ls 4 [(3, .int (nI i)), (0, .ref a), (1, .int (nI n)), (2, .int (nI z))] → W p l e RMX0_putNumber s m args below meth c H locs 0 0 (XQ below args s H0 a (a + 2) 0 0 (qV (fun H1 => Tx G a (L ++ List.replicate z 48 ++ dg n) H1)) xN) (F0 m 2 ls []) := by
    intro fu2
    induction fu2 with
    | zero => intro i hi H locs hS hT ls hmu; exact absurd hmu (Nat.not_lt_zero _)
    | succ fu2 ih2 =>
      intro i hi H locs hS hT ls hmu2 hl
      refine lv_iload_n hx hb dX0_putNumber_2 rfl (lv_at hl 0 rfl) ?_
      refine lv_iload_n hx hb dX0_putNumber_3 rfl (lv_at hl 3 rfl) ?_
      refine x_icmp_ge (tgt := 19) hx hb (by omega) (by omega) dX0_putNumber_4 (by decide) (fun c4 => ?_) (fun c4 => ?_)
      · obtain rfl : z = i := by omega
        replace hT : Tx G a (L ++ List.replicate z 48 ++ []) H := by rw [List.append_nil]; exact hT
        refine lv_ldc hx hb hown hw0 dX0_putNumber_19 ?_
        refine x_rw (z := nI 100000000) (by decide) ?_
        refine lv_istore_n (lv' := [(3, .int (nI 100000000)), (0, .ref a), (1, .int (nI n)), (2, .int (nI z))]) hx hb dX0_putNumber_21 rfl hl (by decide) rfl (fun ls hl => ?_)
        have loop22 : ∀ (fu : Nat) (sc : Nat) (D : List Nat) (hs : (∃ k, k ≤ 8 ∧ sc = 10 ^ k) ∨ sc = 0) (hD : 0 < sc → D = pfx n (10 * sc)) (hEn : sc = 0 → D = dg n) (H : Heap) (locs : List Loc) (hS : va_S (gA a (a + 2) H0.size) H0 H locs) (hT : Tx G a (L ++ List.replicate z 48 ++ D) H) (ls : Array Slot), sc < fu → lv_has ls 4 [(3, .int (nI sc)), (0, .ref a), (1, .int (nI n)), (2, .int (nI z))] → W p l e RMX0_putNumber s m args below meth c H locs 0 0 (XQ below args s H0 a (a + 2) 0 0 (qV (fun H1 => Tx G a (L ++ List.replicate z 48 ++ dg n) H1)) xN) (F0 m 22 ls []) := by
          intro fu22
          induction fu22 with
          | zero => intro sc D hs hD hEn H locs hS hT ls hmu; exact absurd hmu (Nat.not_lt_zero _)
          | succ fu22 ih22 =>
            intro sc D hs hD hEn H locs hS hT ls hmu22 hl
            have hs1 : sc ≤ 100000000 := pw_le hs
            refine lv_iload_n hx hb dX0_putNumber_22 rfl (lv_at hl 0 rfl) ?_
            refine x_if_leN (tgt := 58) hx hb (by omega) dX0_putNumber_23 (by decide) (fun c23 => ?_) (fun c23 => ?_)
            · exact x_vret hx hb hr hlocks h0 hS (by omega) (by omega) dX0_putNumber_58 (by rw [hEn (by omega)] at hT; exact hT)
            · refine lv_iload_n hx hb dX0_putNumber_26 rfl (lv_at hl 2 rfl) ?_
              refine lv_iload_n hx hb dX0_putNumber_27 rfl (lv_at hl 0 rfl) ?_
              refine x_icmp_ge (tgt := 36) hx hb (by omega) (by omega) dX0_putNumber_28 (by decide) (fun c28 => ?_) (fun c28 => ?_)
              · have hput : sc ≤ n ∨ sc = 1 := by omega
                have hq0 : n / sc < 1000000000 := Nat.lt_of_le_of_lt (Nat.div_le_self _ _) hn9
                refine lv_aload_n hx hb dX0_putNumber_36 rfl (lv_at hl 1 rfl) ?_
                refine lv_bipush (v := nI 48) hx hb dX0_putNumber_37 (by decide) ?_
                refine lv_iload_n hx hb dX0_putNumber_39 rfl (lv_at hl 2 rfl) ?_
                refine lv_iload_n hx hb dX0_putNumber_40 rfl (lv_at hl 0 rfl) ?_
                refine lv_idiv hx hb dX0_putNumber_41 (x_nz (by omega) (by omega)) ?_
                refine x_rw (z := nI (n / sc)) (pk_div (by omega) (by omega) (by omega)) ?_
                refine lv_bipush (v := nI 10) hx hb dX0_putNumber_42 (by decide) ?_
                refine lv_irem hx hb dX0_putNumber_44 (by decide) ?_
                refine x_rw (z := nI ((n / sc) % 10)) (pk_rem (by omega) (by omega) (by omega)) ?_
                refine lv_iadd hx hb dX0_putNumber_45 ?_
                refine x_rw (z := nI (48 + ((n / sc) % 10))) (nI_add _ _) ?_
                refine lv_i2c (v := nI (48 + ((n / sc) % 10))) hx hb dX0_putNumber_46 (x_i2c (by omega)) ?_
                refine x_goV (x_runV (As := [.int (nI (48 + ((n / sc) % 10)))]) (rest := []) ⟨hx, hb, hml, hown, hts⟩ hE h0 hS (c_X0_put l G a (L ++ List.replicate z 48 ++ D) (48 + n / sc % 10) (by rw [List.length_append, List.length_append, List.length_replicate, hD (by omega)]; have := pfx_len (n := n) (s := sc) (by omega); omega) (by omega) H hT) (cwV 1 hts gX0_putNumber_X0_put rfl rfl rfl (by decide +kernel) ⟨Nat.le_of_ble_eq_true rfl, Nat.le_of_ble_eq_true rfl⟩) (hT.recv hK) (by omega) rfl rfl hl.1 rfl (lv_room (Nat.le_of_ble_eq_true rfl)) dX0_putNumber_47 ⟨by first | exact Nat.le_of_ble_eq_true rfl | omega, by first | exact Nat.le_of_ble_eq_true rfl | omega⟩) hS (by omega) (fun _ _ _ _ _ h => h.elim) (fun  H1 locs hq hF hS => ?_)
                replace hT : Tx G a (L ++ List.replicate z 48 ++ (D ++ [48 + n / sc % 10])) H1 := by rw [← List.append_assoc]; exact hq
                refine lv_iload_n hx hb dX0_putNumber_50 rfl (lv_at hl 0 rfl) ?_
                refine lv_bipush (v := nI 10) hx hb dX0_putNumber_51 (by decide) ?_
                refine lv_idiv hx hb dX0_putNumber_53 (by decide) ?_
                refine x_rw (z := nI (sc / 10)) (pk_div (by omega) (by omega) (by omega)) ?_
                refine lv_istore_n (lv' := [(3, .int (nI (sc / 10))), (0, .ref a), (1, .int (nI n)), (2, .int (nI z))]) hx hb dX0_putNumber_54 rfl hl (by decide) rfl (fun ls hl => ?_)
                refine lv_goto (tgt := 22) hx hb dX0_putNumber_55 (by decide) ?_
                have hk := pw_step (hs.resolve_right (by omega))
                have hs2 : (∃ k, k ≤ 8 ∧ sc / 10 = 10 ^ k) ∨ sc / 10 = 0 := by
                  rcases hk with rfl | ⟨h1, h2, h3⟩
                  · exact Or.inr (by decide)
                  · exact Or.inl h3
                have hD2 : 0 < sc / 10 → D ++ [48 + n / sc % 10] = pfx n (10 * (sc / 10)) := by
                  intro h
                  rcases hk with rfl | ⟨h1, h2, h3⟩
                  · exact absurd h (by decide)
                  · rw [h2, hD (by omega)]
                    exact (pfx_put1 (by omega) (by omega)).symm
                have hE2 : sc / 10 = 0 → D ++ [48 + n / sc % 10] = dg n := by
                  intro h
                  rcases hk with rfl | ⟨h1, h2, h3⟩
                  · rw [hD (by decide)]; exact (pfx_end n).symm
                  · omega
                exact ih22 (sc / 10) (D ++ [48 + n / sc % 10]) hs2 hD2 hE2 H1 _ hS hT ls (by omega) (lv_sub hl [0, 1, 2, 3] rfl)
              · refine lv_iload_n hx hb dX0_putNumber_31 rfl (lv_at hl 0 rfl) ?_
                refine lv_iconst (v := nI 1) hx hb dX0_putNumber_32 (by decide) ?_
                refine x_icmp_ne (tgt := 50) hx hb (by omega) (by omega) dX0_putNumber_33 (by decide) (fun c33 => ?_) (fun c33 => ?_)
                · refine lv_iload_n hx hb dX0_putNumber_50 rfl (lv_at hl 0 rfl) ?_
                  refine lv_bipush (v := nI 10) hx hb dX0_putNumber_51 (by decide) ?_
                  refine lv_idiv hx hb dX0_putNumber_53 (by decide) ?_
                  refine x_rw (z := nI (sc / 10)) (pk_div (by omega) (by omega) (by omega)) ?_
                  refine lv_istore_n (lv' := [(3, .int (nI (sc / 10))), (0, .ref a), (1, .int (nI n)), (2, .int (nI z))]) hx hb dX0_putNumber_54 rfl hl (by decide) rfl (fun ls hl => ?_)
                  refine lv_goto (tgt := 22) hx hb dX0_putNumber_55 (by decide) ?_
                  have hk := pw_step (hs.resolve_right (by omega))
                  have hs2 : (∃ k, k ≤ 8 ∧ sc / 10 = 10 ^ k) ∨ sc / 10 = 0 := by
                    rcases hk with rfl | ⟨h1, h2, h3⟩
                    · exact Or.inr (by decide)
                    · exact Or.inl h3
                  have hD2 : 0 < sc / 10 → D = pfx n (10 * (sc / 10)) := by
                    intro h
                    rcases hk with rfl | ⟨h1, h2, h3⟩
                    · exact absurd h (by decide)
                    · rw [h2, hD (by omega)]
                      rw [pfx_none (by omega), pfx_none (by omega)]
                  have hE2 : sc / 10 = 0 → D = dg n := by
                    intro h
                    rcases hk with rfl | ⟨h1, h2, h3⟩
                    · exact absurd rfl c33
                    · omega
                  exact ih22 (sc / 10) D hs2 hD2 hE2 H _ hS hT ls (by omega) (lv_sub hl [0, 1, 2, 3] rfl)
                · have hput : sc ≤ n ∨ sc = 1 := by omega
                  have hq0 : n / sc < 1000000000 := Nat.lt_of_le_of_lt (Nat.div_le_self _ _) hn9
                  refine lv_aload_n hx hb dX0_putNumber_36 rfl (lv_at hl 1 rfl) ?_
                  refine lv_bipush (v := nI 48) hx hb dX0_putNumber_37 (by decide) ?_
                  refine lv_iload_n hx hb dX0_putNumber_39 rfl (lv_at hl 2 rfl) ?_
                  refine lv_iload_n hx hb dX0_putNumber_40 rfl (lv_at hl 0 rfl) ?_
                  refine lv_idiv hx hb dX0_putNumber_41 (x_nz (by omega) (by omega)) ?_
                  refine x_rw (z := nI (n / sc)) (pk_div (by omega) (by omega) (by omega)) ?_
                  refine lv_bipush (v := nI 10) hx hb dX0_putNumber_42 (by decide) ?_
                  refine lv_irem hx hb dX0_putNumber_44 (by decide) ?_
                  refine x_rw (z := nI ((n / sc) % 10)) (pk_rem (by omega) (by omega) (by omega)) ?_
                  refine lv_iadd hx hb dX0_putNumber_45 ?_
                  refine x_rw (z := nI (48 + ((n / sc) % 10))) (nI_add _ _) ?_
                  refine lv_i2c (v := nI (48 + ((n / sc) % 10))) hx hb dX0_putNumber_46 (x_i2c (by omega)) ?_
                  refine x_goV (x_runV (As := [.int (nI (48 + ((n / sc) % 10)))]) (rest := []) ⟨hx, hb, hml, hown, hts⟩ hE h0 hS (c_X0_put l G a (L ++ List.replicate z 48 ++ D) (48 + n / sc % 10) (by rw [List.length_append, List.length_append, List.length_replicate, hD (by omega)]; have := pfx_len (n := n) (s := sc) (by omega); omega) (by omega) H hT) (cwV 1 hts gX0_putNumber_X0_put rfl rfl rfl (by decide +kernel) ⟨Nat.le_of_ble_eq_true rfl, Nat.le_of_ble_eq_true rfl⟩) (hT.recv hK) (by omega) rfl rfl hl.1 rfl (lv_room (Nat.le_of_ble_eq_true rfl)) dX0_putNumber_47 ⟨by first | exact Nat.le_of_ble_eq_true rfl | omega, by first | exact Nat.le_of_ble_eq_true rfl | omega⟩) hS (by omega) (fun _ _ _ _ _ h => h.elim) (fun  H2 locs hq hF hS => ?_)
                  replace hT : Tx G a (L ++ List.replicate z 48 ++ (D ++ [48 + n / sc % 10])) H2 := by rw [← List.append_assoc]; exact hq
                  refine lv_iload_n hx hb dX0_putNumber_50 rfl (lv_at hl 0 rfl) ?_
                  refine lv_bipush (v := nI 10) hx hb dX0_putNumber_51 (by decide) ?_
                  refine lv_idiv hx hb dX0_putNumber_53 (by decide) ?_
                  refine x_rw (z := nI (sc / 10)) (pk_div (by omega) (by omega) (by omega)) ?_
                  refine lv_istore_n (lv' := [(3, .int (nI (sc / 10))), (0, .ref a), (1, .int (nI n)), (2, .int (nI z))]) hx hb dX0_putNumber_54 rfl hl (by decide) rfl (fun ls hl => ?_)
                  refine lv_goto (tgt := 22) hx hb dX0_putNumber_55 (by decide) ?_
                  have hk := pw_step (hs.resolve_right (by omega))
                  have hs2 : (∃ k, k ≤ 8 ∧ sc / 10 = 10 ^ k) ∨ sc / 10 = 0 := by
                    rcases hk with rfl | ⟨h1, h2, h3⟩
                    · exact Or.inr (by decide)
                    · exact Or.inl h3
                  have hD2 : 0 < sc / 10 → D ++ [48 + n / sc % 10] = pfx n (10 * (sc / 10)) := by
                    intro h
                    rcases hk with rfl | ⟨h1, h2, h3⟩
                    · exact absurd h (by decide)
                    · rw [h2, hD (by omega)]
                      exact (pfx_put1 (by omega) (by omega)).symm
                  have hE2 : sc / 10 = 0 → D ++ [48 + n / sc % 10] = dg n := by
                    intro h
                    rcases hk with rfl | ⟨h1, h2, h3⟩
                    · rw [hD (by decide)]; exact (pfx_end n).symm
                    · omega
                  exact ih22 (sc / 10) (D ++ [48 + n / sc % 10]) hs2 hD2 hE2 H2 _ hS hT ls (by omega) (lv_sub hl [0, 1, 2, 3] rfl)
        exact loop22 _ 100000000 ([]) (Or.inl ⟨8, by decide, by decide⟩) (fun _ => (pfx_none (by omega)).symm) (fun h => absurd h (by decide)) H _ hS hT ls (Nat.lt_succ_self _) (lv_sub hl [0, 1, 2, 3] rfl)
      · refine lv_aload_n hx hb dX0_putNumber_7 rfl (lv_at hl 1 rfl) ?_
        refine lv_bipush (v := nI 48) hx hb dX0_putNumber_8 (by decide) ?_
        refine x_goV (x_runV (As := [.int (nI 48)]) (rest := []) ⟨hx, hb, hml, hown, hts⟩ hE h0 hS (c_X0_put l G a (L ++ List.replicate i 48) 48 (by rw [List.length_append, List.length_replicate]; have := dgs_pos n; omega) (by decide) H hT) (cwV 1 hts gX0_putNumber_X0_put rfl rfl rfl (by decide +kernel) ⟨Nat.le_of_ble_eq_true rfl, Nat.le_of_ble_eq_true rfl⟩) (hT.recv hK) (by omega) rfl rfl hl.1 rfl (lv_room (Nat.le_of_ble_eq_true rfl)) dX0_putNumber_10 ⟨by first | exact Nat.le_of_ble_eq_true rfl | omega, by first | exact Nat.le_of_ble_eq_true rfl | omega⟩) hS (by omega) (fun _ _ _ _ _ h => h.elim) (fun  H3 locs hq hF hS => ?_)
        replace hT : Tx G a (L ++ List.replicate (i + 1) 48) H3 := by rw [List.replicate_succ', ← List.append_assoc]; exact hq
        refine lv_iinc (v := nI (i + 1)) (lv' := [(3, .int (nI (i + 1))), (0, .ref a), (1, .int (nI n)), (2, .int (nI z))]) hx hb dX0_putNumber_13 hl (k := 0) rfl (nI_1 _) (by decide) rfl (fun ls hl => ?_)
        refine lv_goto (tgt := 2) hx hb dX0_putNumber_16 (by decide) ?_
        exact ih2 (i + 1) (by omega) H3 _ hS hT ls (by omega) (lv_sub hl [0, 1, 2, 3] rfl)
  exact loop2 _ 0 (by omega) H0 _ hS hT ls (Nat.lt_succ_self _) (lv_sub hl [0, 1, 2, 3] rfl)

abbrev RMX0_putWord : Room := { frames := 2, cells := 0, slots := 0, locals := 33 }
set_option maxHeartbeats 4000000 in
set_option maxRecDepth 100000 in
/-- letters behind -/
theorem c_X0_putWord (l : Launch) (G : gG) (a : Nat) (L : List Nat) (code : Int32) (k : Nat) (hk5 : k ≤ 5) (hlen : L.length + k ≤ 60) (H0 : Heap) (hT : Tx G a L H0) : XM l yX0_putWord wsX0_putWord RMX0_putWord G [.ref a, .int code, .int (nI k)] H0 a (a + 2) 0 0 (qV (fun H1 => Tx G a (L ++ wd (cd code) k) H1)) xN := by
  refine x_ofW (cc := cX0_putWord) (maxL := 5) (ret := none) (by decide) rfl (Nat.le_of_ble_eq_true rfl) ?_
  intro p e s m below meth c hx hb hr hml hown hts hlocks hout hin2 h0 hE ls hl
  replace hown : s.vm.findClass RX0 = some m.cls := hown
  have hK := hE.1
  have hS : va_S (gA a (a + 2) H0.size) H0 H0 [] := va_S.rf
  generalize hargs : ([.ref a, .int code, .int (nI k)] : List Value).toArray = args at hts ⊢
  have hw0 := hts (.constant RX0 32 (2147483647)) (by decide +kernel)
  have hl : lv_has ls 5 [(0, .ref a), (1, .int code), (2, .int (nI k))] := hl
  replace hT : Tx G a (L ++ wd (cd code) 0) H0 := by show Tx G a (L ++ []) H0; rw [List.append_nil]; exact hT
  have hcd := cd_lt code
  refine lv_iload_n hx hb dX0_putWord_0 rfl (lv_at hl 1 rfl) ?_
  refine lv_ldc hx hb hown hw0 dX0_putWord_1 ?_
  refine x_rw (z := nI 2147483647) (by decide) ?_
  refine lv_iand hx hb dX0_putWord_3 ?_
  refine x_rw (z := (nI (cd code))) (cd_and code) ?_
  refine lv_istore_n (lv' := [(3, .int (nI (cd code))), (0, .ref a), (1, .int code), (2, .int (nI k))]) hx hb dX0_putWord_4 rfl hl (by decide) rfl (fun ls hl => ?_)
  refine lv_iconst (v := nI 0) hx hb dX0_putWord_5 (by decide) ?_
  refine lv_istore (lv' := [(4, .int (nI 0)), (3, .int (nI (cd code))), (0, .ref a), (1, .int code), (2, .int (nI k))]) hx hb dX0_putWord_6 hl (by decide) rfl (fun ls hl => ?_)
  have loop8 : ∀ (fu : Nat) (r i : Nat) (hi : i ≤ k) (hr52 : r = cd code / 52 ^ i) (hrl : r < 2147483648) (H : Heap) (locs : List Loc) (hS : va_S (gA a (a + 2) H0.size) H0 H locs) (hT : Tx G a (L ++ wd (cd code) i) H) (ls : Array Slot), k - i < fu → lv_has ls 5 [(4, .int (nI i)), (3, .int (nI r)), (0, .ref a), (1, .int code), (2, .int (nI k))] → W p l e RMX0_putWord s m args below meth c H locs 0 0 (XQ below args s H0 a (a + 2) 0 0 (qV (fun H1 => Tx G a (L ++ wd (cd code) k) H1)) xN) (F0 m 8 ls []) := by
    intro fu8
    induction fu8 with
    | zero => intro r i hi hr52 hrl H locs hS hT ls hmu; exact absurd hmu (Nat.not_lt_zero _)
    | succ fu8 ih8 =>
      intro r i hi hr52 hrl H locs hS hT ls hmu8 hl
      refine lv_iload hx hb dX0_putWord_8 (lv_at hl 0 rfl) ?_
      refine lv_iload_n hx hb dX0_putWord_10 rfl (lv_at hl 4 rfl) ?_
      refine x_icmp_ge (tgt := 36) hx hb (by omega) (by omega) dX0_putWord_11 (by decide) (fun c11 => ?_) (fun c11 => ?_)
      · exact x_vret hx hb hr hlocks h0 hS (by omega) (by omega) dX0_putWord_36 (by rw [show k = i by omega]; exact hT)
      · refine lv_aload_n hx hb dX0_putWord_14 rfl (lv_at hl 2 rfl) ?_
        refine lv_iload_n hx hb dX0_putWord_15 rfl (lv_at hl 1 rfl) ?_
        refine lv_bipush (v := nI 52) hx hb dX0_putWord_16 (by decide) ?_
        refine lv_irem hx hb dX0_putWord_18 (by decide) ?_
        refine x_rw (z := nI (r % 52)) (pk_rem (by omega) (by omega) (by omega)) ?_
        refine x_goI_ro (x_runSN (As := [.int (nI (r % 52))]) (rest := [.ref a]) ⟨hx, hb, hml, hown, hts⟩ hE h0 hS (c_X2_letterOf l G (r % 52) (by omega) H) ⟨(va_cnB (host := RX2) 1 hts ggX0_putWord_X2_letterOf rfl rfl rfl (x_nest hE (by decide +kernel)) (hts (.initialized RX2) (by decide +kernel)) (by decide +kernel) ⟨Nat.le_of_ble_eq_true rfl, Nat.le_of_ble_eq_true rfl⟩), hts (.static yX2_letterOf) (by decide +kernel), trivial⟩ (by omega) rfl rfl hl.1 rfl (lv_room (Nat.le_of_ble_eq_true rfl)) dX0_putWord_19 ⟨by first | exact Nat.le_of_ble_eq_true rfl | omega, by first | exact Nat.le_of_ble_eq_true rfl | omega⟩) hS (by omega) (fun _ _ _ _ _ h => h.elim) (fun locs hq hS => ?_)
        refine x_goV (x_runV (As := [.int (nI (ltr (r % 52)))]) (rest := []) ⟨hx, hb, hml, hown, hts⟩ hE h0 hS (c_X0_put l G a (L ++ wd (cd code) i) (ltr (r % 52)) (by rw [List.length_append, wd_len]; omega) (by have := ltr_lt (r := r % 52) (by omega); omega) H hT) (cwV 1 hts gX0_putWord_X0_put rfl rfl rfl (by decide +kernel) ⟨Nat.le_of_ble_eq_true rfl, Nat.le_of_ble_eq_true rfl⟩) (hT.recv hK) (by omega) rfl rfl hl.1 rfl (lv_room (Nat.le_of_ble_eq_true rfl)) dX0_putWord_22 ⟨by first | exact Nat.le_of_ble_eq_true rfl | omega, by first | exact Nat.le_of_ble_eq_true rfl | omega⟩) hS (by omega) (fun _ _ _ _ _ h => h.elim) (fun  H2 locs hq hF hS => ?_)
        replace hT : Tx G a (L ++ wd (cd code) (i + 1)) H2 := by show Tx G a (L ++ (wd (cd code) i ++ [ltr (cd code / 52 ^ i % 52)])) _; rw [← List.append_assoc, ← hr52]; exact hq
        refine lv_iload_n hx hb dX0_putWord_25 rfl (lv_at hl 1 rfl) ?_
        refine lv_bipush (v := nI 52) hx hb dX0_putWord_26 (by decide) ?_
        refine lv_idiv hx hb dX0_putWord_28 (by decide) ?_
        refine x_rw (z := nI (r / 52)) (pk_div (by omega) (by omega) (by omega)) ?_
        refine lv_istore_n (lv' := [(3, .int (nI (r / 52))), (4, .int (nI i)), (0, .ref a), (1, .int code), (2, .int (nI k))]) hx hb dX0_putWord_29 rfl hl (by decide) rfl (fun ls hl => ?_)
        refine lv_iinc (v := nI (i + 1)) (lv' := [(4, .int (nI (i + 1))), (3, .int (nI (r / 52))), (0, .ref a), (1, .int code), (2, .int (nI k))]) hx hb dX0_putWord_30 hl (k := 1) rfl (nI_1 _) (by decide) rfl (fun ls hl => ?_)
        refine lv_goto (tgt := 8) hx hb dX0_putWord_33 (by decide) ?_
        exact ih8 (r / 52) (i + 1) (by omega) (by rw [hr52, Nat.div_div_eq_div_mul, Nat.pow_succ]) (by omega) H2 _ hS hT ls (by omega) (lv_sub hl [0, 1, 2, 3, 4] rfl)
  exact loop8 _ (cd code) 0 (by omega) (by rw [Nat.pow_zero, Nat.div_one]) (by omega) H0 _ hS hT ls (Nat.lt_succ_self _) (lv_sub hl [0, 1, 2, 3, 4] rfl)

abbrev RMX0_lastKind : Room := { frames := 2, cells := 0, slots := 0, locals := 33 }
set_option maxHeartbeats 4000000 in
set_option maxRecDepth 100000 in
theorem c_X0_lastKind (l : Launch) (G : gG) (a : Nat) (L : List Nat) (hpos : 0 < L.length) (H0 : Heap) (hT : Tx G a L H0) : XM l yX0_lastKind wsX0_lastKind RMX0_lastKind G [.ref a] H0 0 0 0 0 (roI H0 (nI (kd (cg L (L.length - 1)))) True) xN := by
  refine x_ofW (cc := cX0_lastKind) (maxL := 1) (ret := (some .int)) (by decide) rfl (Nat.le_of_ble_eq_true rfl) ?_
  intro p e s m below meth c hx hb hr hml hown hts hlocks hout hin2 h0 hE ls hl
  replace hown : s.vm.findClass RX0 = some m.cls := hown
  have hK := hE.1
  have hS : va_S (gA 0 0 H0.size) H0 H0 [] := va_S.rf
  generalize hargs : ([.ref a] : List Value).toArray = args at hts ⊢
  have hw0 := hts (.fieldLink RX0 15 "Releaseledger$Text" "count" "I") (by decide +kernel)
  have hw1 : ∀ w ∈ u_ws RX0 TX0 2, w ∈ wsX0_lastKind := by decide +kernel
  have hl : lv_has ls 1 [(0, .ref a)] := hl
  obtain ⟨f, hO, hA, hf, hn, hch⟩ := id hT
  refine lv_aload_n hx hb dX0_lastKind_0 rfl (lv_at hl 0 rfl) ?_
  refine lv_aload_n hx hb dX0_lastKind_1 rfl (lv_at hl 0 rfl) ?_
  refine x_get (ci := 0) hx hb hts hown hK rfl hw1 1 (by decide) hw0 hO rfl dX0_lastKind_2 ?_
  refine lv_iconst (v := nI 1) hx hb dX0_lastKind_5 (by decide) ?_
  refine lv_isub hx hb dX0_lastKind_6 ?_
  refine x_rw (z := nI (L.length - 1)) (pk_sub (by omega)) ?_
  refine x_goI_ro (x_runV (As := [.int (nI (L.length - 1))]) (rest := []) ⟨hx, hb, hml, hown, hts⟩ hE h0 hS (c_X0_signAt l G a L (L.length - 1) (by omega) H0 hT) (cwV 1 hts gX0_lastKind_X0_signAt rfl rfl rfl (by decide +kernel) ⟨Nat.le_of_ble_eq_true rfl, Nat.le_of_ble_eq_true rfl⟩) (gO.recv (C := RX0) hK hO rfl) (by omega) rfl rfl hl.1 rfl (lv_room (Nat.le_of_ble_eq_true rfl)) dX0_lastKind_7 ⟨by first | exact Nat.le_of_ble_eq_true rfl | omega, by first | exact Nat.le_of_ble_eq_true rfl | omega⟩) hS (by omega) (fun _ _ _ _ _ h => h.elim) (fun locs hq hS => ?_)
  refine x_goI_ro (x_runSN (As := [.int (nI (cg L (L.length - 1)))]) (rest := []) ⟨hx, hb, hml, hown, hts⟩ hE h0 hS (c_X2_kindOf l G (cg L (L.length - 1)) (hT.cg_lt (by omega)) H0) ⟨(va_cnB (host := RX2) 1 hts ggX0_lastKind_X2_kindOf rfl rfl rfl (x_nest hE (by decide +kernel)) (hts (.initialized RX2) (by decide +kernel)) (by decide +kernel) ⟨Nat.le_of_ble_eq_true rfl, Nat.le_of_ble_eq_true rfl⟩), hts (.static yX2_kindOf) (by decide +kernel), trivial⟩ (by omega) rfl rfl hl.1 rfl (lv_room (Nat.le_of_ble_eq_true rfl)) dX0_lastKind_10 ⟨by first | exact Nat.le_of_ble_eq_true rfl | omega, by first | exact Nat.le_of_ble_eq_true rfl | omega⟩) hS (by omega) (fun _ _ _ _ _ h => h.elim) (fun locs hq hS => ?_)
  exact x_iret hx hb hr hlocks h0 hS (by omega) (by omega) dX0_lastKind_13 (⟨rfl, rfl, trivial⟩)

abbrev RMX0_has : Room := { frames := 2, cells := 0, slots := 0, locals := 33 }
set_option maxHeartbeats 4000000 in
set_option maxRecDepth 100000 in
theorem c_X0_has (l : Launch) (G : gG) (a : Nat) (L : List Nat) (ch : Nat) (hc : ch < 65536) (H0 : Heap) (hT : Tx G a L H0) : XM l yX0_has wsX0_has RMX0_has G [.ref a, .int (nI ch)] H0 0 0 0 0 (roI H0 (bI (decide (ch ∈ L))) True) xN := by
  refine x_ofW (cc := cX0_has) (maxL := 3) (ret := (some .boolean)) (by decide) rfl (Nat.le_of_ble_eq_true rfl) ?_
  intro p e s m below meth c hx hb hr hml hown hts hlocks hout hin2 h0 hE ls hl
  replace hown : s.vm.findClass RX0 = some m.cls := hown
  have hK := hE.1
  have hS : va_S (gA 0 0 H0.size) H0 H0 [] := va_S.rf
  generalize hargs : ([.ref a, .int (nI ch)] : List Value).toArray = args at hts ⊢
  have hw0 := hts (.fieldLink RX0 15 "Releaseledger$Text" "count" "I") (by decide +kernel)
  have hw1 : ∀ w ∈ u_ws RX0 TX0 2, w ∈ wsX0_has := by decide +kernel
  have hl : lv_has ls 3 [(0, .ref a), (1, .int (nI ch))] := hl
  obtain ⟨f, hO, hA, hf, hn, hch⟩ := id hT
  refine lv_iconst (v := nI 0) hx hb dX0_has_0 (by decide) ?_
  refine lv_istore_n (lv' := [(2, .int (nI 0)), (0, .ref a), (1, .int (nI ch))]) hx hb dX0_has_1 rfl hl (by decide) rfl (fun ls hl => ?_)
  have loop2 : ∀ (fu : Nat) (i : Nat) (hi : i ≤ L.length) (hno : ∀ j, j < i → cg L j ≠ ch) (locs : List Loc) (hS : va_S (gA 0 0 H0.size) H0 H0 locs) (ls : Array Slot), L.length - i < fu → lv_has ls 3 [(2, .int (nI i)), (0, .ref a), (1, .int (nI ch))] → W p l e RMX0_has s m args below meth c H0 locs 0 0 (XQ below args s H0 0 0 0 0 (roI H0 (bI (decide (ch ∈ L))) True) xN) (F0 m 2 ls []) := by
    intro fu2
    induction fu2 with
    | zero => intro i hi hno locs hS  ls hmu; exact absurd hmu (Nat.not_lt_zero _)
    | succ fu2 ih2 =>
      intro i hi hno locs hS  ls hmu2 hl
      refine lv_iload_n hx hb dX0_has_2 rfl (lv_at hl 0 rfl) ?_
      refine lv_aload_n hx hb dX0_has_3 rfl (lv_at hl 1 rfl) ?_
      refine x_get (ci := 0) hx hb hts hown hK rfl hw1 1 (by decide) hw0 hO rfl dX0_has_4 ?_
      refine x_icmp_ge (tgt := 27) hx hb (by omega) (by omega) dX0_has_7 (by decide) (fun c7 => ?_) (fun c7 => ?_)
      · refine lv_iconst (v := nI 0) hx hb dX0_has_27 (by decide) ?_
        exact x_zret hx hb hr hlocks h0 hS (by omega) (by omega) dX0_has_28 (by first | rfl | exact bI_nar _) (⟨rfl, (has_f (fun j h => hno j (by omega))).symm, trivial⟩)
      · refine lv_aload_n hx hb dX0_has_10 rfl (lv_at hl 1 rfl) ?_
        refine lv_iload_n hx hb dX0_has_11 rfl (lv_at hl 0 rfl) ?_
        refine x_goI_ro (x_runV (As := [.int (nI i)]) (rest := []) ⟨hx, hb, hml, hown, hts⟩ hE h0 hS (c_X0_signAt l G a L i (by omega) H0 hT) (cwV 1 hts gX0_has_X0_signAt rfl rfl rfl (by decide +kernel) ⟨Nat.le_of_ble_eq_true rfl, Nat.le_of_ble_eq_true rfl⟩) (gO.recv (C := RX0) hK hO rfl) (by omega) rfl rfl hl.1 rfl (lv_room (Nat.le_of_ble_eq_true rfl)) dX0_has_12 ⟨by first | exact Nat.le_of_ble_eq_true rfl | omega, by first | exact Nat.le_of_ble_eq_true rfl | omega⟩) hS (by omega) (fun _ _ _ _ _ h => h.elim) (fun locs hq hS => ?_)
        have hcl := hT.cg_lt (i := i) (by omega)
        refine lv_iload_n hx hb dX0_has_15 rfl (lv_at hl 2 rfl) ?_
        refine x_icmp_ne (tgt := 21) hx hb (by omega) (by omega) dX0_has_16 (by decide) (fun c16 => ?_) (fun c16 => ?_)
        · refine lv_iinc (v := nI (i + 1)) (lv' := [(2, .int (nI (i + 1))), (0, .ref a), (1, .int (nI ch))]) hx hb dX0_has_21 hl (k := 0) rfl (nI_1 _) (by decide) rfl (fun ls hl => ?_)
          refine lv_goto (tgt := 2) hx hb dX0_has_24 (by decide) ?_
          exact ih2 (i + 1) (by omega) (lt_s hno c16) _ hS ls (by omega) (lv_sub hl [0, 1, 2] rfl)
        · refine lv_iconst (v := nI 1) hx hb dX0_has_19 (by decide) ?_
          exact x_zret hx hb hr hlocks h0 hS (by omega) (by omega) dX0_has_20 (by first | rfl | exact bI_nar _) (⟨rfl, (has_t (by omega) c16).symm, trivial⟩)
  exact loop2 _ 0 (by omega) lt_0 _ hS ls (Nat.lt_succ_self _) (lv_sub hl [0, 1, 2] rfl)

abbrev RMX0_isLike : Room := { frames := 2, cells := 0, slots := 0, locals := 33 }
set_option maxHeartbeats 4000000 in
set_option maxRecDepth 100000 in
theorem c_X0_isLike (l : Launch) (G : gG) (a o : Nat) (L T : List Nat) (H0 : Heap) (hT : Tx G a L H0) (hM : Tx G o T H0) : XM l yX0_isLike wsX0_isLike RMX0_isLike G [.ref a, .ref o] H0 0 0 0 0 (roI H0 (bI (decide (L = T))) True) xN := by
  refine x_ofW (cc := cX0_isLike) (maxL := 3) (ret := (some .boolean)) (by decide) rfl (Nat.le_of_ble_eq_true rfl) ?_
  intro p e s m below meth c hx hb hr hml hown hts hlocks hout hin2 h0 hE ls hl
  replace hown : s.vm.findClass RX0 = some m.cls := hown
  have hK := hE.1
  have hS : va_S (gA 0 0 H0.size) H0 H0 [] := va_S.rf
  generalize hargs : ([.ref a, .ref o] : List Value).toArray = args at hts ⊢
  have hw0 := hts (.fieldLink RX0 15 "Releaseledger$Text" "count" "I") (by decide +kernel)
  have hw1 : ∀ w ∈ u_ws RX0 TX0 2, w ∈ wsX0_isLike := by decide +kernel
  have hl : lv_has ls 3 [(0, .ref a), (1, .ref o)] := hl
  obtain ⟨f, hO, hA, hf, hn, hch⟩ := id hT
  have hTn := hM.le
  refine lv_aload_n hx hb dX0_isLike_0 rfl (lv_at hl 0 rfl) ?_
  refine x_get (ci := 0) hx hb hts hown hK rfl hw1 1 (by decide) hw0 hO rfl dX0_isLike_1 ?_
  refine lv_aload_n hx hb dX0_isLike_4 rfl (lv_at hl 1 rfl) ?_
  refine x_goI_ro (x_runV (As := []) (rest := [.int (nI L.length)]) ⟨hx, hb, hml, hown, hts⟩ hE h0 hS (c_X0_length l G o T H0 hM) (cwV 0 hts gX0_isLike_X0_length rfl rfl rfl (by decide +kernel) ⟨Nat.le_of_ble_eq_true rfl, Nat.le_of_ble_eq_true rfl⟩) (hM.recv hK) (by omega) rfl rfl hl.1 rfl (lv_room (Nat.le_of_ble_eq_true rfl)) dX0_isLike_5 ⟨by first | exact Nat.le_of_ble_eq_true rfl | omega, by first | exact Nat.le_of_ble_eq_true rfl | omega⟩) hS (by omega) (fun _ _ _ _ _ h => h.elim) (fun locs hq hS => ?_)
  refine x_icmp_eq (tgt := 13) hx hb (by omega) (by omega) dX0_isLike_8 (by decide) (fun c8 => ?_) (fun c8 => ?_)
  · refine lv_iconst (v := nI 0) hx hb dX0_isLike_13 (by decide) ?_
    refine lv_istore_n (lv' := [(2, .int (nI 0)), (0, .ref a), (1, .ref o)]) hx hb dX0_isLike_14 rfl hl (by decide) rfl (fun ls hl => ?_)
    have loop15 : ∀ (fu : Nat) (i : Nat) (hi : i ≤ L.length) (hsm : ∀ j, j < i → cg L j = cg T j) (locs : List Loc) (hS : va_S (gA 0 0 H0.size) H0 H0 locs) (ls : Array Slot), L.length - i < fu → lv_has ls 3 [(2, .int (nI i)), (0, .ref a), (1, .ref o)] → W p l e RMX0_isLike s m args below meth c H0 locs (0 + 0) (0 + 0) (XQ below args s H0 0 0 0 0 (roI H0 (bI (decide (L = T))) True) xN) (F0 m 15 ls []) := by
      intro fu15
      induction fu15 with
      | zero => intro i hi hsm locs hS  ls hmu; exact absurd hmu (Nat.not_lt_zero _)
      | succ fu15 ih15 =>
        intro i hi hsm locs hS  ls hmu15 hl
        refine lv_iload_n hx hb dX0_isLike_15 rfl (lv_at hl 0 rfl) ?_
        refine lv_aload_n hx hb dX0_isLike_16 rfl (lv_at hl 1 rfl) ?_
        refine x_get (ci := 0) hx hb hts hown hK rfl hw1 1 (by decide) hw0 hO rfl dX0_isLike_17 ?_
        refine x_icmp_ge (tgt := 44) hx hb (by omega) (by omega) dX0_isLike_20 (by decide) (fun c20 => ?_) (fun c20 => ?_)
        · refine lv_iconst (v := nI 1) hx hb dX0_isLike_44 (by decide) ?_
          exact x_zret hx hb hr hlocks h0 hS (by omega) (by omega) dX0_isLike_45 (by first | rfl | exact bI_nar _) (⟨rfl, by rw [decide_eq_true (cg_ext c8 (fun j h => hsm j (by omega)))]; rfl, trivial⟩)
        · refine lv_aload_n hx hb dX0_isLike_23 rfl (lv_at hl 1 rfl) ?_
          refine lv_iload_n hx hb dX0_isLike_24 rfl (lv_at hl 0 rfl) ?_
          refine x_goI_ro (x_runV (As := [.int (nI i)]) (rest := []) ⟨hx, hb, hml, hown, hts⟩ hE h0 hS (c_X0_signAt l G a L i (by omega) H0 hT) (cwV 1 hts gX0_isLike_X0_signAt rfl rfl rfl (by decide +kernel) ⟨Nat.le_of_ble_eq_true rfl, Nat.le_of_ble_eq_true rfl⟩) (gO.recv (C := RX0) hK hO rfl) (by omega) rfl rfl hl.1 rfl (lv_room (Nat.le_of_ble_eq_true rfl)) dX0_isLike_25 ⟨by first | exact Nat.le_of_ble_eq_true rfl | omega, by first | exact Nat.le_of_ble_eq_true rfl | omega⟩) hS (by omega) (fun _ _ _ _ _ h => h.elim) (fun locs hq hS => ?_)
          have hcl := hT.cg_lt (i := i) (by omega)
          refine lv_aload_n hx hb dX0_isLike_28 rfl (lv_at hl 2 rfl) ?_
          refine lv_iload_n hx hb dX0_isLike_29 rfl (lv_at hl 0 rfl) ?_
          refine x_goI_ro (x_runV (As := [.int (nI i)]) (rest := [.int (nI (cg L i))]) ⟨hx, hb, hml, hown, hts⟩ hE h0 hS (c_X0_signAt l G o T i (by omega) H0 hM) (cwV 1 hts gX0_isLike_X0_signAt rfl rfl rfl (by decide +kernel) ⟨Nat.le_of_ble_eq_true rfl, Nat.le_of_ble_eq_true rfl⟩) (hM.recv hK) (by omega) rfl rfl hl.1 rfl (lv_room (Nat.le_of_ble_eq_true rfl)) dX0_isLike_30 ⟨by first | exact Nat.le_of_ble_eq_true rfl | omega, by first | exact Nat.le_of_ble_eq_true rfl | omega⟩) hS (by omega) (fun _ _ _ _ _ h => h.elim) (fun locs hq hS => ?_)
          have hcl2 := hM.cg_lt (i := i) (by omega)
          refine x_icmp_eq (tgt := 38) hx hb (by omega) (by omega) dX0_isLike_33 (by decide) (fun c33 => ?_) (fun c33 => ?_)
          · refine lv_iinc (v := nI (i + 1)) (lv' := [(2, .int (nI (i + 1))), (0, .ref a), (1, .ref o)]) hx hb dX0_isLike_38 hl (k := 0) rfl (nI_1 _) (by decide) rfl (fun ls hl => ?_)
            refine lv_goto (tgt := 15) hx hb dX0_isLike_41 (by decide) ?_
            exact ih15 (i + 1) (by omega) (lt_s hsm c33) _ hS ls (by omega) (lv_sub hl [0, 1, 2] rfl)
          · refine lv_iconst (v := nI 0) hx hb dX0_isLike_36 (by decide) ?_
            exact x_zret hx hb hr hlocks h0 hS (by omega) (by omega) dX0_isLike_37 (by first | rfl | exact bI_nar _) (⟨rfl, by rw [decide_eq_false (fun h => c33 (by rw [h]))]; rfl, trivial⟩)
    exact loop15 _ 0 (by omega) lt_0 _ hS ls (Nat.lt_succ_self _) (lv_sub hl [0, 1, 2] rfl)
  · refine lv_iconst (v := nI 0) hx hb dX0_isLike_11 (by decide) ?_
    exact x_zret hx hb hr hlocks h0 hS (by omega) (by omega) dX0_isLike_12 (by first | rfl | exact bI_nar _) (⟨rfl, by rw [decide_eq_false (fun h => c8 (by rw [h]))]; rfl, trivial⟩)

abbrev RMX0_hash : Room := { frames := 2, cells := 0, slots := 0, locals := 33 }
set_option maxHeartbeats 4000000 in
set_option maxRecDepth 100000 in
theorem c_X0_hash (l : Launch) (G : gG) (a : Nat) (L : List Nat) (H0 : Heap) (hT : Tx G a L H0) : XM l yX0_hash wsX0_hash RMX0_hash G [.ref a] H0 0 0 0 0 (roI H0 (hsh L L.length) True) xN := by
  refine x_ofW (cc := cX0_hash) (maxL := 3) (ret := (some .int)) (by decide) rfl (Nat.le_of_ble_eq_true rfl) ?_
  intro p e s m below meth c hx hb hr hml hown hts hlocks hout hin2 h0 hE ls hl
  replace hown : s.vm.findClass RX0 = some m.cls := hown
  have hK := hE.1
  have hS : va_S (gA 0 0 H0.size) H0 H0 [] := va_S.rf
  generalize hargs : ([.ref a] : List Value).toArray = args at hts ⊢
  have hw0 := hts (.fieldLink RX0 15 "Releaseledger$Text" "count" "I") (by decide +kernel)
  have hw1 : ∀ w ∈ u_ws RX0 TX0 2, w ∈ wsX0_hash := by decide +kernel
  have hl : lv_has ls 3 [(0, .ref a)] := hl
  obtain ⟨f, hO, hA, hf, hn, hch⟩ := id hT
  refine lv_iconst (v := nI 0) hx hb dX0_hash_0 (by decide) ?_
  refine lv_istore_n (lv' := [(1, .int (nI 0)), (0, .ref a)]) hx hb dX0_hash_1 rfl hl (by decide) rfl (fun ls hl => ?_)
  refine lv_iconst (v := nI 0) hx hb dX0_hash_2 (by decide) ?_
  refine lv_istore_n (lv' := [(2, .int (nI 0)), (1, .int (nI 0)), (0, .ref a)]) hx hb dX0_hash_3 rfl hl (by decide) rfl (fun ls hl => ?_)
  have loop4 : ∀ (fu : Nat) (h : Int32) (i : Nat) (hh : h = hsh L i) (hi : i ≤ L.length) (locs : List Loc) (hS : va_S (gA 0 0 H0.size) H0 H0 locs) (ls : Array Slot), L.length - i < fu → lv_has ls 3 [(2, .int (nI i)), (1, .int h), (0, .ref a)] → W p l e RMX0_hash s m args below meth c H0 locs 0 0 (XQ below args s H0 0 0 0 0 (roI H0 (hsh L L.length) True) xN) (F0 m 4 ls []) := by
    intro fu4
    induction fu4 with
    | zero => intro h i hh hi locs hS  ls hmu; exact absurd hmu (Nat.not_lt_zero _)
    | succ fu4 ih4 =>
      intro h i hh hi locs hS  ls hmu4 hl
      refine lv_iload_n hx hb dX0_hash_4 rfl (lv_at hl 0 rfl) ?_
      refine lv_aload_n hx hb dX0_hash_5 rfl (lv_at hl 2 rfl) ?_
      refine x_get (ci := 0) hx hb hts hown hK rfl hw1 1 (by decide) hw0 hO rfl dX0_hash_6 ?_
      refine x_icmp_ge (tgt := 29) hx hb (by omega) (by omega) dX0_hash_9 (by decide) (fun c9 => ?_) (fun c9 => ?_)
      · refine lv_iload_n hx hb dX0_hash_29 rfl (lv_at hl 1 rfl) ?_
        exact x_iret hx hb hr hlocks h0 hS (by omega) (by omega) dX0_hash_30 (⟨rfl, by rw [hh, show i = L.length by omega], trivial⟩)
      · refine lv_bipush (v := nI 31) hx hb dX0_hash_12 (by decide) ?_
        refine lv_iload_n hx hb dX0_hash_14 rfl (lv_at hl 1 rfl) ?_
        refine lv_imul hx hb dX0_hash_15 ?_
        refine lv_aload_n hx hb dX0_hash_16 rfl (lv_at hl 2 rfl) ?_
        refine lv_iload_n hx hb dX0_hash_17 rfl (lv_at hl 0 rfl) ?_
        refine x_goI_ro (x_runV (As := [.int (nI i)]) (rest := [.int ((nI 31) * h)]) ⟨hx, hb, hml, hown, hts⟩ hE h0 hS (c_X0_signAt l G a L i (by omega) H0 hT) (cwV 1 hts gX0_hash_X0_signAt rfl rfl rfl (by decide +kernel) ⟨Nat.le_of_ble_eq_true rfl, Nat.le_of_ble_eq_true rfl⟩) (gO.recv (C := RX0) hK hO rfl) (by omega) rfl rfl hl.1 rfl (lv_room (Nat.le_of_ble_eq_true rfl)) dX0_hash_18 ⟨by first | exact Nat.le_of_ble_eq_true rfl | omega, by first | exact Nat.le_of_ble_eq_true rfl | omega⟩) hS (by omega) (fun _ _ _ _ _ h => h.elim) (fun locs hq hS => ?_)
        refine lv_iadd hx hb dX0_hash_21 ?_
        refine lv_istore_n (lv' := [(1, .int (((nI 31) * h) + (nI (cg L i)))), (2, .int (nI i)), (0, .ref a)]) hx hb dX0_hash_22 rfl hl (by decide) rfl (fun ls hl => ?_)
        refine lv_iinc (v := nI (i + 1)) (lv' := [(2, .int (nI (i + 1))), (1, .int (((nI 31) * h) + (nI (cg L i)))), (0, .ref a)]) hx hb dX0_hash_23 hl (k := 1) rfl (nI_1 _) (by decide) rfl (fun ls hl => ?_)
        refine lv_goto (tgt := 4) hx hb dX0_hash_26 (by decide) ?_
        exact ih4 (((nI 31) * h) + (nI (cg L i))) (i + 1) (by rw [hh]; rfl) (by omega) _ hS ls (by omega) (lv_sub hl [0, 1, 2] rfl)
  exact loop4 _ (nI 0) 0 rfl (by omega) _ hS ls (Nat.lt_succ_self _) (lv_sub hl [0, 1, 2] rfl)

abbrev RMX0_addTo : Room := { frames := 2, cells := 0, slots := 0, locals := 33 }
set_option maxHeartbeats 4000000 in
set_option maxRecDepth 100000 in
theorem c_X0_addTo (l : Launch) (G : gG) (a : Nat) (L : List Nat) (t : Int64) (H0 : Heap) (hT : Tx G a L H0) : XM l yX0_addTo wsX0_addTo RMX0_addTo G [.ref a, .long t] H0 0 0 0 0 (roL H0 (adl L t L.length) True) xN := by
  refine x_ofW (cc := cX0_addTo) (maxL := 6) (ret := (some .long)) (by decide) rfl (Nat.le_of_ble_eq_true rfl) ?_
  intro p e s m below meth c hx hb hr hml hown hts hlocks hout hin2 h0 hE ls hl
  replace hown : s.vm.findClass RX0 = some m.cls := hown
  have hK := hE.1
  have hS : va_S (gA 0 0 H0.size) H0 H0 [] := va_S.rf
  generalize hargs : ([.ref a, .long t] : List Value).toArray = args at hts ⊢
  have hw0 := hts (.constantLong RX0 40 (31)) (by decide +kernel)
  have hw1 := hts (.fieldLink RX0 15 "Releaseledger$Text" "count" "I") (by decide +kernel)
  have hw2 : ∀ w ∈ u_ws RX0 TX0 2, w ∈ wsX0_addTo := by decide +kernel
  have hl : lv_has ls 6 [(0, .ref a), (1, .long t)] := hl
  obtain ⟨f, hO, hA, hf, hn, hch⟩ := id hT
  refine lv_ldc2 hx hb hown hw0 dX0_addTo_0 ?_
  refine lv_lload_n hx hb dX0_addTo_3 rfl (lv_at hl 1 rfl) ?_
  refine lv_lmul hx hb dX0_addTo_4 ?_
  refine lv_aload_n hx hb dX0_addTo_5 rfl (lv_at hl 0 rfl) ?_
  refine x_get (ci := 0) hx hb hts hown hK rfl hw2 1 (by decide) hw1 hO rfl dX0_addTo_6 ?_
  refine lv_i2l (v := lN L.length) hx hb dX0_addTo_9 (nI_l (by omega)) ?_
  refine lv_ladd hx hb dX0_addTo_10 ?_
  refine lv_lstore_n (lv' := [(3, .long ((31 * t) + (lN L.length))), (0, .ref a), (1, .long t)]) hx hb dX0_addTo_11 rfl hl (by decide) rfl (fun ls hl => ?_)
  refine lv_iconst (v := nI 0) hx hb dX0_addTo_12 (by decide) ?_
  refine lv_istore (lv' := [(5, .int (nI 0)), (3, .long ((31 * t) + (lN L.length))), (0, .ref a), (1, .long t)]) hx hb dX0_addTo_13 hl (by decide) rfl (fun ls hl => ?_)
  have loop15 : ∀ (fu : Nat) (u : Int64) (i : Nat) (hu : u = adl L t i) (hi : i ≤ L.length) (locs : List Loc) (hS : va_S (gA 0 0 H0.size) H0 H0 locs) (ls : Array Slot), L.length - i < fu → lv_has ls 6 [(5, .int (nI i)), (3, .long u), (0, .ref a), (1, .long t)] → W p l e RMX0_addTo s m args below meth c H0 locs 0 0 (XQ below args s H0 0 0 0 0 (roL H0 (adl L t L.length) True) xN) (F0 m 15 ls []) := by
    intro fu15
    induction fu15 with
    | zero => intro u i hu hi locs hS  ls hmu; exact absurd hmu (Nat.not_lt_zero _)
    | succ fu15 ih15 =>
      intro u i hu hi locs hS  ls hmu15 hl
      refine lv_iload hx hb dX0_addTo_15 (lv_at hl 0 rfl) ?_
      refine lv_aload_n hx hb dX0_addTo_17 rfl (lv_at hl 2 rfl) ?_
      refine x_get (ci := 0) hx hb hts hown hK rfl hw2 1 (by decide) hw1 hO rfl dX0_addTo_18 ?_
      refine x_icmp_ge (tgt := 44) hx hb (by omega) (by omega) dX0_addTo_21 (by decide) (fun c21 => ?_) (fun c21 => ?_)
      · refine lv_lload_n hx hb dX0_addTo_44 rfl (lv_at hl 1 rfl) ?_
        exact x_lret hx hb hr hlocks h0 hS (by omega) (by omega) dX0_addTo_45 (⟨rfl, by rw [hu, show i = L.length by omega], trivial⟩)
      · refine lv_ldc2 hx hb hown hw0 dX0_addTo_24 ?_
        refine lv_lload_n hx hb dX0_addTo_27 rfl (lv_at hl 1 rfl) ?_
        refine lv_lmul hx hb dX0_addTo_28 ?_
        refine lv_aload_n hx hb dX0_addTo_29 rfl (lv_at hl 2 rfl) ?_
        refine lv_iload hx hb dX0_addTo_30 (lv_at hl 0 rfl) ?_
        refine x_goI_ro (x_runV (As := [.int (nI i)]) (rest := [.long (31 * u)]) ⟨hx, hb, hml, hown, hts⟩ hE h0 hS (c_X0_signAt l G a L i (by omega) H0 hT) (cwV 1 hts gX0_addTo_X0_signAt rfl rfl rfl (by decide +kernel) ⟨Nat.le_of_ble_eq_true rfl, Nat.le_of_ble_eq_true rfl⟩) (gO.recv (C := RX0) hK hO rfl) (by omega) rfl rfl hl.1 rfl (lv_room (Nat.le_of_ble_eq_true rfl)) dX0_addTo_32 ⟨by first | exact Nat.le_of_ble_eq_true rfl | omega, by first | exact Nat.le_of_ble_eq_true rfl | omega⟩) hS (by omega) (fun _ _ _ _ _ h => h.elim) (fun locs hq hS => ?_)
        have hcl := hT.cg_lt (i := i) (by omega)
        refine lv_i2l (v := lN (cg L i)) hx hb dX0_addTo_35 (nI_l (by omega)) ?_
        refine lv_ladd hx hb dX0_addTo_36 ?_
        refine lv_lstore_n (lv' := [(3, .long ((31 * u) + (lN (cg L i)))), (5, .int (nI i)), (0, .ref a), (1, .long t)]) hx hb dX0_addTo_37 rfl hl (by decide) rfl (fun ls hl => ?_)
        refine lv_iinc (v := nI (i + 1)) (lv' := [(5, .int (nI (i + 1))), (3, .long ((31 * u) + (lN (cg L i)))), (0, .ref a), (1, .long t)]) hx hb dX0_addTo_38 hl (k := 1) rfl (nI_1 _) (by decide) rfl (fun ls hl => ?_)
        refine lv_goto (tgt := 15) hx hb dX0_addTo_41 (by decide) ?_
        exact ih15 ((31 * u) + (lN (cg L i))) (i + 1) (by rw [hu]; rfl) (by omega) _ hS ls (by omega) (lv_sub hl [0, 1, 2, 3] rfl)
  exact loop15 _ ((31 * t) + (lN L.length)) 0 rfl (by omega) _ hS ls (Nat.lt_succ_self _) (lv_sub hl [0, 1, 2, 3] rfl)
