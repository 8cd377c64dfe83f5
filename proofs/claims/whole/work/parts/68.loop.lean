/-! ===== the law's loop: five ints are a call ===== -/
theorem lw_cmp {i n : Nat} (hi : i < 5000) (hn : n ≤ 2560) (h : ¬ nI n - nI 5 < nI i) : i + 5 ≤ n := by
  rw [Int32.lt_iff_toInt_lt, Int32.toInt_sub, nI_toInt (by omega), nI_toInt (by omega), nI_toInt (by omega), Int.bmod_eq_of_le (by omega) (by omega)] at h
  omega
section KL
variable {p : Program} {l : Launch} {e : Env} {s : State} {m : MethodId} {args : Array Value} {below : List Frame} {meth : Method} {c : Code} {Q : State → Prop} {G : gG} {b0 n b y : Nat} {xs : Nat → Int32} {H0 : Heap}
set_option maxHeartbeats 4000000 in
set_option maxRecDepth 100000 in
theorem k_switch {i : Nat} {H : Heap} {locs : List Loc} {L : List Nat} {txt : Nat → List Nat} {th : Int32} {cs ss : Nat} {ls : Array Slot} (hC : LC p l s m args c G b0 n xs H0) (hb0 : H0.size ≤ b) (hby : b + 115 ≤ y) (hi : i + 5 ≤ n) (hn : n ≤ 2560) (hXW : XW G b L txt H) (hMW : MW G y L txt th H) (hOJ : OJ G (y + 34) H) (hS : va_S (gA 0 0 H0.size) H0 H locs) (hcs : cs ≤ 844000) (hss : ss ≤ 6540000) (hl : lv_has ls 9 [(4, .int (nI i)), (3, .ref (y + 34)), (2, .ref y), (1, .ref b), (0, .ref b0)]) (d : Nat) (hd : d < 32)
    (kk : ∀ (H1 : Heap) (locs1 : List Loc) (L1 : List Nat) (t1 : Nat → List Nat) (th1 : Int32) (cs1 ss1 : Nat) (ls1 : Array Slot), XW G b L1 t1 H1 → MW G y L1 t1 th1 H1 → OJ G (y + 34) H1 → va_S (gA 0 0 H0.size) H0 H1 locs1 → cs1 ≤ cs + 1600 → ss1 ≤ ss + 12000 → lv_has ls1 9 [(4, .int (nI i)), (3, .ref (y + 34)), (2, .ref y), (1, .ref b), (0, .ref b0)] → W p l e room_1 s m args below meth c H1 locs1 cs1 ss1 Q (F0 m 1817 ls1 [])) : W p l e room_1 s m args below meth c H locs cs ss Q (F0 m 39 ls [.int (nI d)]) := by
  have hx := hC.1
  have hb := hC.2.1
  rcases (show d = 0 ∨ d = 1 ∨ d = 2 ∨ d = 3 ∨ d = 4 ∨ d = 5 ∨ d = 6 ∨ d = 7 ∨ d = 8 ∨ d = 9 ∨ d = 10 ∨ d = 11 ∨ d = 12 ∨ d = 13 ∨ d = 14 ∨ d = 15 ∨ d = 16 ∨ d = 17 ∨ d = 18 ∨ d = 19 ∨ d = 20 ∨ d = 21 ∨ d = 22 ∨ d = 23 ∨ d = 24 ∨ d = 25 ∨ d = 26 ∨ 27 ≤ d by omega) with rfl | rfl | rfl | rfl | rfl | rfl | rfl | rfl | rfl | rfl | rfl | rfl | rfl | rfl | rfl | rfl | rfl | rfl | rfl | rfl | rfl | rfl | rfl | rfl | rfl | rfl | rfl | hd27
  · refine lv_tableIn (off := 121) (tgt := 160) hx hb dL_law_39 (by decide) (by decide) (by decide) (by decide) ?_
    exact k_begin hC hb0 hby hi hn hXW hMW hOJ hS hcs hss hl kk
  · refine lv_tableIn (off := 189) (tgt := 228) hx hb dL_law_39 (by decide) (by decide) (by decide) (by decide) ?_
    exact k_add hC hb0 hby hi hn hXW hMW hOJ hS hcs hss hl kk
  · refine lv_tableIn (off := 271) (tgt := 310) hx hb dL_law_39 (by decide) (by decide) (by decide) (by decide) ?_
    exact k_word hC hb0 hby hi hn hXW hMW hOJ hS hcs hss hl kk
  · refine lv_tableIn (off := 353) (tgt := 392) hx hb dL_law_39 (by decide) (by decide) (by decide) (by decide) ?_
    exact k_drop hC hb0 hby hi hn hXW hMW hOJ hS hcs hss hl kk
  · refine lv_tableIn (off := 366) (tgt := 405) hx hb dL_law_39 (by decide) (by decide) (by decide) (by decide) ?_
    exact k_sign hC hb0 hby hi hn hXW hMW hOJ hS hcs hss hl kk
  · refine lv_tableIn (off := 422) (tgt := 461) hx hb dL_law_39 (by decide) (by decide) (by decide) (by decide) ?_
    exact k_parse hC hb0 hby hi hn hXW hMW hOJ hS hcs hss hl kk
  · refine lv_tableIn (off := 478) (tgt := 517) hx hb dL_law_39 (by decide) (by decide) (by decide) (by decide) ?_
    exact k_triple hC hb0 hby hi hn hXW hMW hOJ hS hcs hss hl kk
  · refine lv_tableIn (off := 570) (tgt := 609) hx hb dL_law_39 (by decide) (by decide) (by decide) (by decide) ?_
    exact k_copy hC hb0 hby hi hn hXW hMW hOJ hS hcs hss hl kk
  · refine lv_tableIn (off := 638) (tgt := 677) hx hb dL_law_39 (by decide) (by decide) (by decide) (by decide) ?_
    exact k_size hC hb0 hby hi hn hXW hMW hOJ hS hcs hss hl kk
  · refine lv_tableIn (off := 694) (tgt := 733) hx hb dL_law_39 (by decide) (by decide) (by decide) (by decide) ?_
    exact k_text hC hb0 hby hi hn hXW hMW hOJ hS hcs hss hl kk
  · refine lv_tableIn (off := 762) (tgt := 801) hx hb dL_law_39 (by decide) (by decide) (by decide) (by decide) ?_
    exact k_tokens hC hb0 hby hi hn hXW hMW hOJ hS hcs hss hl kk
  · refine lv_tableIn (off := 830) (tgt := 869) hx hb dL_law_39 (by decide) (by decide) (by decide) (by decide) ?_
    exact k_token hC hb0 hby hi hn hXW hMW hOJ hS hcs hss hl kk
  · refine lv_tableIn (off := 910) (tgt := 949) hx hb dL_law_39 (by decide) (by decide) (by decide) (by decide) ?_
    exact k_compare hC hb0 hby hi hn hXW hMW hOJ hS hcs hss hl kk
  · refine lv_tableIn (off := 978) (tgt := 1017) hx hb dL_law_39 (by decide) (by decide) (by decide) (by decide) ?_
    exact k_isSame hC hb0 hby hi hn hXW hMW hOJ hS hcs hss hl kk
  · refine lv_tableIn (off := 1053) (tgt := 1092) hx hb dL_law_39 (by decide) (by decide) (by decide) (by decide) ?_
    exact k_apart hC hb0 hby hi hn hXW hMW hOJ hS hcs hss hl kk
  · refine lv_tableIn (off := 1121) (tgt := 1160) hx hb dL_law_39 (by decide) (by decide) (by decide) (by decide) ?_
    exact k_rank hC hb0 hby hi hn hXW hMW hOJ hS hcs hss hl kk
  · refine lv_tableIn (off := 1177) (tgt := 1216) hx hb dL_law_39 (by decide) (by decide) (by decide) (by decide) ?_
    exact k_at hC hb0 hby hi hn hXW hMW hOJ hS hcs hss hl kk
  · refine lv_tableIn (off := 1233) (tgt := 1272) hx hb dL_law_39 (by decide) (by decide) (by decide) (by decide) ?_
    exact k_sort hC hb0 hby hi hn hXW hMW hOJ hS hcs hss hl kk
  · refine lv_tableIn (off := 1246) (tgt := 1285) hx hb dL_law_39 (by decide) (by decide) (by decide) (by decide) ?_
    exact k_between hC hb0 hby hi hn hXW hMW hOJ hS hcs hss hl kk
  · refine lv_tableIn (off := 1314) (tgt := 1353) hx hb dL_law_39 (by decide) (by decide) (by decide) (by decide) ?_
    exact k_zero hC hb0 hby hi hn hXW hMW hOJ hS hcs hss hl kk
  · refine lv_tableIn (off := 1389) (tgt := 1428) hx hb dL_law_39 (by decide) (by decide) (by decide) (by decide) ?_
    exact k_longer hC hb0 hby hi hn hXW hMW hOJ hS hcs hss hl kk
  · refine lv_tableIn (off := 1476) (tgt := 1515) hx hb dL_law_39 (by decide) (by decide) (by decide) (by decide) ?_
    exact k_early hC hb0 hby hi hn hXW hMW hOJ hS hcs hss hl kk
  · refine lv_tableIn (off := 1565) (tgt := 1604) hx hb dL_law_39 (by decide) (by decide) (by decide) (by decide) ?_
    exact k_built hC hb0 hby hi hn hXW hMW hOJ hS hcs hss hl kk
  · refine lv_tableIn (off := 1645) (tgt := 1684) hx hb dL_law_39 (by decide) (by decide) (by decide) (by decide) ?_
    exact k_isHashed hC hb0 hby hi hn hXW hMW hOJ hS hcs hss hl kk
  · refine lv_tableIn (off := 1708) (tgt := 1747) hx hb dL_law_39 (by decide) (by decide) (by decide) (by decide) ?_
    exact k_wordShare hC hb0 hby hi hn hXW hMW hOJ hS hcs hss hl kk
  · refine lv_tableIn (off := 1751) (tgt := 1790) hx hb dL_law_39 (by decide) (by decide) (by decide) (by decide) ?_
    exact k_checksum hC hb0 hby hi hn hXW hMW hOJ hS hcs hss hl kk
  · refine lv_tableIn (off := 1765) (tgt := 1804) hx hb dL_law_39 (by decide) (by decide) (by decide) (by decide) ?_
    exact k_isTrue hC hb0 hby hi hn hXW hMW hOJ hS hcs hss hl kk
  · refine lv_tableOut (tgt := 1817) hx hb dL_law_39 (Or.inr (by rw [nI_toInt (by omega)]; omega)) (by decide) ?_
    exact kk H locs L txt th cs ss ls hXW hMW hOJ hS (by omega) (by omega) hl
set_option maxHeartbeats 4000000 in
set_option maxRecDepth 100000 in
theorem k_loop (hC : LC p l s m args c G b0 n xs H0) (hb0 : H0.size ≤ b) (hby : b + 115 ≤ y) (hn : n ≤ 2560) (hend : ∀ (H : Heap) (ls : Array Slot), W p l e room_1 s m args below meth c H [] 846140 6557685 Q (F0 m 1824 ls [.int (nI 1)])) : ∀ (fu j : Nat) (H : Heap) (locs : List Loc) (L : List Nat) (txt : Nat → List Nat) (th : Int32) (cs ss : Nat) (ls : Array Slot), 600 - j < fu → j ≤ 513 → XW G b L txt H → MW G y L txt th H → OJ G (y + 34) H → va_S (gA 0 0 H0.size) H0 H locs → cs ≤ 200 + 1600 * j → ss ≤ 6000 + 12000 * j → lv_has ls 9 [(4, .int (nI (5 * j))), (3, .ref (y + 34)), (2, .ref y), (1, .ref b), (0, .ref b0)] → W p l e room_1 s m args below meth c H locs cs ss Q (F0 m 23 ls []) := by
  have hC2 := hC
  obtain ⟨hx, hb, hml, hown, hts, hXs, hbl, h0, hE, hX⟩ := hC2
  intro fu
  induction fu with
  | zero => intro j H locs L txt th cs ss ls hmu; exact absurd hmu (Nat.not_lt_zero _)
  | succ fu ih =>
    intro j H locs L txt th cs ss ls hmu hj hXW hMW hOJ hS hcs hss hl
    refine lv_iload hx hb dL_law_23 (lv_at hl 0 rfl) ?_
    refine lv_aload_n hx hb dL_law_25 rfl (lv_at hl 4 rfl) ?_
    refine va_slen hx hb hXs hbl (by unfold gA; omega) hS dL_law_26 ?_
    refine lv_iconst (v := nI 5) hx hb dL_law_27 (by decide) ?_
    refine lv_isub hx hb dL_law_28 ?_
    refine lv_icmp_gt (tgt := 1823) hx hb dL_law_29 (by decide) (fun c29 => ?_) (fun c29 => ?_)
    · refine lv_iconst (v := nI 1) hx hb dL_law_1823 (by decide) ?_
      refine va_forget (fun q hq => ?_) ?_
      · have h := hS.2.2 q hq
        unfold gA at h
        rw [h0]
        omega
      · exact W.widen (k := 846140) (n := 6557685) (by omega) (by omega) (hend H ls)
    · have hi := lw_cmp (i := 5 * j) (n := n) (by omega) hn c29
      refine lv_aload_n hx hb dL_law_32 rfl (lv_at hl 4 rfl) ?_
      refine lv_iload hx hb dL_law_33 (lv_at hl 0 rfl) ?_
      refine x_sld hx hb hXs hbl hS (by omega) (by omega) dL_law_35 ?_
      refine lv_bipush (v := nI 31) hx hb dL_law_36 (by decide) ?_
      refine lv_iand hx hb dL_law_38 ?_
      refine x_rw (z := nI ((xs (5 * j)).toBitVec.toNat % 2 ^ 5)) (pk_and _ 5 rfl) ?_
      refine k_switch hC hb0 hby hi hn hXW hMW hOJ hS (by omega) (by omega) hl _ (Nat.mod_lt _ (by decide)) (fun H1 locs1 L1 t1 th1 cs1 ss1 ls1 h1 h2 h3 h4 h5 h6 h7 => ?_)
      refine lv_iinc (v := nI (5 * (j + 1))) (lv' := [(4, .int (nI (5 * (j + 1)))), (3, .ref (y + 34)), (2, .ref y), (1, .ref b), (0, .ref b0)]) hx hb dL_law_1817 h7 (k := 0) rfl ((nI_add _ 5).trans (congrArg nI (by omega))) (by decide) rfl (fun ls2 hl2 => ?_)
      refine lv_goto (tgt := 23) hx hb dL_law_1820 (by decide) ?_
      exact ih (j + 1) H1 locs1 L1 t1 th1 cs1 ss1 ls2 (by omega) (by omega) h1 h2 h3 h4 (by omega) (by omega) hl2
end KL
