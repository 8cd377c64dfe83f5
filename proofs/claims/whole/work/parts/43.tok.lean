/-! ===== the reference: tokens and their order ===== -/
theorem tk_le (L : List Nat) (r : Nat) : (tk L r).length ≤ L.length := (pf_inv L L.length).2.1 r
/-- a token's signs are of one kind -/
theorem pf_hom (L : List Nat) : ∀ q r i, i < ((pf L q).2.2 r).length → ∀ j, (tg ((pf L q).2.2 r) i).1 ≤ j → j < (tg ((pf L q).2.2 r) i).2 → kd (cg L j) = kd (cg L (tg ((pf L q).2.2 r) i).1) := by
  intro q
  induction q with
  | zero => intro r i hi; exact absurd hi (Nat.not_lt_zero _)
  | succ q ih =>
    have hI := pf_inv L q
    by_cases h0 : kd (cg L q) = 0
    · intro r i hi
      rw [pf_J h0] at hi ⊢
      exact ih r i hi
    by_cases h1 : kd (cg L q) = (pf L q).2.1
    · have e : pf L (q + 1) = ((pf L q).1, kd (cg L q), growT (pf L q).2.2 (pf L q).1 (q + 1)) := pstep_old h0 h1
      intro r i hi
      rw [e] at hi ⊢
      obtain ⟨p1, p2, p3⟩ := hI.2.2.1 (fun h => h0 (h1.trans h))
      by_cases hr : r = (pf L q).1
      · subst hr
        have hi' : i < (growT (pf L q).2.2 (pf L q).1 (q + 1) (pf L q).1).length := hi
        show ∀ j, (tg (growT (pf L q).2.2 (pf L q).1 (q + 1) (pf L q).1) i).1 ≤ j → j < (tg (growT (pf L q).2.2 (pf L q).1 (q + 1) (pf L q).1) i).2 → kd (cg L j) = kd (cg L (tg (growT (pf L q).2.2 (pf L q).1 (q + 1) (pf L q).1) i).1)
        rw [growT_len p1] at hi'
        by_cases hl : i < ((pf L q).2.2 (pf L q).1).length - 1
        · rw [tg_grow hl]
          exact ih _ i (by omega)
        · have ei : i = (growT (pf L q).2.2 (pf L q).1 (q + 1) (pf L q).1).length - 1 := by rw [growT_len p1]; omega
          rw [ei, last_grow p1]
          intro j a1 a2
          by_cases ej : j = q
          · rw [ej, h1, ← p3]
          · refine ih _ (((pf L q).2.2 (pf L q).1).length - 1) (by omega) j a1 ?_
            rw [p2]
            have : j < q + 1 := a2
            omega
      · have hi' : i < (growT (pf L q).2.2 (pf L q).1 (q + 1) r).length := hi
        show ∀ j, (tg (growT (pf L q).2.2 (pf L q).1 (q + 1) r) i).1 ≤ j → j < (tg (growT (pf L q).2.2 (pf L q).1 (q + 1) r) i).2 → kd (cg L j) = kd (cg L (tg (growT (pf L q).2.2 (pf L q).1 (q + 1) r) i).1)
        rw [growT_ne hr] at hi' ⊢
        exact ih r i hi'
    · have e : pf L (q + 1) = ((pf L q).1, kd (cg L q), addT (pf L q).2.2 (pf L q).1 (q, q + 1)) := by rw [← growadd]; exact pstep_new h0 h1
      intro r i hi
      rw [e] at hi ⊢
      have hi' : i < (addT (pf L q).2.2 (pf L q).1 (q, q + 1) r).length := hi
      show ∀ j, (tg (addT (pf L q).2.2 (pf L q).1 (q, q + 1) r) i).1 ≤ j → j < (tg (addT (pf L q).2.2 (pf L q).1 (q, q + 1) r) i).2 → kd (cg L j) = kd (cg L (tg (addT (pf L q).2.2 (pf L q).1 (q, q + 1) r) i).1)
      by_cases hr : r = (pf L q).1
      · subst hr
        rw [addT_self] at hi' ⊢
        simp at hi'
        by_cases hl : i < ((pf L q).2.2 (pf L q).1).length
        · rw [tg_app hl]
          exact ih _ i hl
        · have ei : i = ((pf L q).2.2 (pf L q).1).length := by omega
          subst ei
          rw [tg_new]
          intro j a1 a2
          have b1 : q ≤ j := a1
          have b2 : j < q + 1 := a2
          have : j = q := by omega
          rw [this]
      · rw [addT_ne hr] at hi' ⊢
        exact ih r i hi'
theorem tk_hom {L : List Nat} {r i j : Nat} (hi : i < (tk L r).length) (h1 : (tg (tk L r) i).1 ≤ j) (h2 : j < (tg (tk L r) i).2) : kd (cg L j) = kd (cg L (tg (tk L r) i).1) := pf_hom L L.length r i hi j h1 h2
/-- no word is at a place -/
def nB (L : List Nat) (T : Tk) (r i : Nat) : Bool := !(decide (i < (T r).length) && !decide (kd (cg L (tg (T r) i).1) = 1))
theorem nB_out {L : List Nat} {T : Tk} {r i : Nat} (h : (T r).length ≤ i) : nB L T r i = true := by unfold nB; rw [decide_eq_false (by omega)]; rfl
theorem nB_in {L : List Nat} {T : Tk} {r i : Nat} (h : i < (T r).length) : nB L T r i = decide (kd (cg L (tg (T r) i).1) = 1) := by unfold nB; rw [decide_eq_true h]; simp
theorem nB_f {L : List Nat} {T : Tk} {r i : Nat} (h : nB L T r i = false) : i < (T r).length ∧ kd (cg L (tg (T r) i).1) ≠ 1 := by
  rcases Nat.lt_or_ge i (T r).length with g | g
  · rw [nB_in g] at h
    exact ⟨g, of_decide_eq_false h⟩
  · rw [nB_out g] at h; cases h
/-- a number at a place, 0 behind the end -/
def vN (L : List Nat) (T : Tk) (r i : Nat) : Nat := if i < (T r).length then nv L (tg (T r) i).1 ((tg (T r) i).2 - (tg (T r) i).1) else 0
theorem vN_in {L : List Nat} {T : Tk} {r i : Nat} (h : i < (T r).length) : vN L T r i = nv L (tg (T r) i).1 ((tg (T r) i).2 - (tg (T r) i).1) := if_pos h
theorem vN_out {L : List Nat} {T : Tk} {r i : Nat} (h : ¬ i < (T r).length) : vN L T r i = 0 := if_neg h
theorem vN_lt {L : List Nat} {T : Tk} {r i : Nat} (hJ : Jt L T) (hr : r < 3) (h : nB L T r i = true) : vN L T r i < 2147483648 := by
  by_cases g : i < (T r).length
  · rw [vN_in g]
    rw [nB_in g] at h
    exact (hJ r hr i g).2.2.2 (of_decide_eq_true h)
  · rw [vN_out g]; decide
theorem tz_num {L : List Nat} {T : Tk} {r i : Nat} (h : nB L T r i = true) : tsz L T r i = nI (vN L T r i) := by
  by_cases g : i < (T r).length
  · rw [vN_in g, tsz_in g]
    rw [nB_in g] at h
    exact szI_d (of_decide_eq_true h)
  · rw [vN_out g, tsz_out g]
theorem tz_word {L : List Nat} {T : Tk} {r i : Nat} (hJ : Jt L T) (hr : r < 3) (h : nB L T r i = false) : tsz L T r i < 0 := by
  obtain ⟨g, h2⟩ := nB_f h
  rw [tsz_in g]
  exact (hJ.neg hr g).mpr h2
theorem tc_nw {L P : List Nat} {r i : Nat} (hJ : Jt L (tk L)) (hJ2 : Jt P (tk P)) (hr : r < 3) (h1 : nB L (tk L) r i = true) (h2 : nB P (tk P) r i = false) : tcmp L (tk L) P (tk P) r i = -1 := by
  have a1 : ¬ tsz L (tk L) r i < 0 := by rw [tz_num h1]; exact nI_pos (vN_lt hJ hr h1)
  have a2 := tz_word hJ2 hr h2
  unfold tcmp oS
  rw [if_neg (fun h => a1 h.1), if_neg a1, if_pos a2]
theorem tc_wn {L P : List Nat} {r i : Nat} (hJ : Jt L (tk L)) (hJ2 : Jt P (tk P)) (hr : r < 3) (h1 : nB L (tk L) r i = false) (h2 : nB P (tk P) r i = true) : tcmp L (tk L) P (tk P) r i = nI 1 := by
  have a1 : ¬ tsz P (tk P) r i < 0 := by rw [tz_num h2]; exact nI_pos (vN_lt hJ2 hr h2)
  have a2 := tz_word hJ hr h1
  unfold tcmp oS
  rw [if_neg (fun h => a1 h.2), if_pos a2]
  rfl
theorem tc_nn {L P : List Nat} {r i : Nat} (hJ : Jt L (tk L)) (hJ2 : Jt P (tk P)) (hr : r < 3) (h1 : nB L (tk L) r i = true) (h2 : nB P (tk P) r i = true) : tcmp L (tk L) P (tk P) r i = oN (vN L (tk L) r i) (vN P (tk P) r i) := by
  have a1 : ¬ nI (vN L (tk L) r i) < 0 := nI_pos (vN_lt hJ hr h1)
  have a2 : ¬ nI (vN P (tk P) r i) < 0 := nI_pos (vN_lt hJ2 hr h2)
  unfold tcmp oS
  rw [tz_num h1, tz_num h2, if_neg (fun h => a1 h.1), if_neg a1, if_neg a2, oI_N (vN_lt hJ hr h1) (vN_lt hJ2 hr h2)]
theorem tc_ww {L P : List Nat} {r i : Nat} (hJ : Jt L (tk L)) (hJ2 : Jt P (tk P)) (hr : r < 3) (h1 : nB L (tk L) r i = false) (h2 : nB P (tk P) r i = false) : tcmp L (tk L) P (tk P) r i = ow L P (tg (tk L r) i).1 ((tg (tk L r) i).2 - (tg (tk L r) i).1) (tg (tk P r) i).1 ((tg (tk P r) i).2 - (tg (tk P r) i).1) := if_pos ⟨tz_word hJ hr h1, tz_word hJ2 hr h2⟩
theorem oI_val (x y : Int32) : oI x y = 0 ∨ oI x y = -1 ∨ oI x y = nI 1 := by
  unfold oI
  split
  · exact Or.inl rfl
  · split
    · exact Or.inr (Or.inl rfl)
    · exact Or.inr (Or.inr rfl)
theorem fz_val {f : Nat → Int32} (h : ∀ j, f j = 0 ∨ f j = -1 ∨ f j = nI 1) (n : Nat) : fz f n = 0 ∨ fz f n = -1 ∨ fz f n = nI 1 := by
  induction n with
  | zero => exact Or.inl rfl
  | succ n ih =>
    show (if fz f n = 0 then f n else fz f n) = 0 ∨ (if fz f n = 0 then f n else fz f n) = -1 ∨ (if fz f n = 0 then f n else fz f n) = nI 1
    split
    · exact h n
    · exact ih
theorem ow_val (L P : List Nat) (s n t k : Nat) : ow L P s n t k = 0 ∨ ow L P s n t k = -1 ∨ ow L P s n t k = nI 1 := by
  unfold ow
  split
  · exact oI_val _ _
  · exact fz_val (fun j => oI_val _ _) _
theorem ow_lt {L P : List Nat} {s n t k : Nat} (h : ow L P s n t k < nI 0) : ow L P s n t k = -1 := by
  rcases ow_val L P s n t k with g | g | g
  · rw [g] at h; exact absurd h (by decide)
  · exact g
  · rw [g] at h; exact absurd h (by decide)
theorem ow_gt {L P : List Nat} {s n t k : Nat} (h : nI 0 ≤ ow L P s n t k) (h0 : ¬ ow L P s n t k = nI 0) : ow L P s n t k = nI 1 := by
  rcases ow_val L P s n t k with g | g | g
  · exact absurd g h0
  · rw [g] at h; exact absurd h (by decide)
  · exact g
/-- the order of two rows of tokens -/
def rz (L P : List Nat) (r : Nat) : Int32 := fz (fun i => tcmp L (tk L) P (tk P) r i) (max (tk L r).length (tk P r).length)
theorem rz_hit {L P : List Nat} {r i : Nat} {v : Int32} (hz : ∀ a, a < i → tcmp L (tk L) P (tk P) r a = 0) (h : tcmp L (tk L) P (tk P) r i = v) (hv : v ≠ 0) (hi : i < (tk L r).length ∨ i < (tk P r).length) : v = rz L P r := by
  unfold rz
  rw [fz_hit (f := fun i => tcmp L (tk L) P (tk P) r i) hz (by rw [h]; exact hv) (by omega)]
  exact h.symm
theorem rz_end {L P : List Nat} {r i : Nat} (hz : ∀ a, a < i → tcmp L (tk L) P (tk P) r a = 0) (hi : (tk L r).length ≤ i ∧ (tk P r).length ≤ i) : nI 0 = rz L P r := by
  unfold rz
  rw [fz_none (fun a ha => hz a (by omega))]
  rfl
theorem rz_row {L P : List Nat} {r : Nat} (h : r ≠ 1 ∨ decide (0 < (tk L r).length) = decide (0 < (tk P r).length)) : rcmp L (tk L) P (tk P) r = rz L P r := rcmp_row (h.imp id (congrArg bI))
theorem or_3 {f : Nat → Int32} : fz f 3 = if f 0 = 0 then (if f 1 = 0 then f 2 else f 1) else f 0 := by
  show (if (if (if (0 : Int32) = 0 then f 0 else 0) = 0 then f 1 else (if (0 : Int32) = 0 then f 0 else 0)) = 0 then f 2 else (if (if (0 : Int32) = 0 then f 0 else 0) = 0 then f 1 else (if (0 : Int32) = 0 then f 0 else 0))) = _
  rw [if_pos rfl]
  by_cases h0 : f 0 = 0
  · rw [if_pos h0, if_pos h0]
  · rw [if_neg h0, if_neg h0, if_neg h0]
theorem jd_0 {L P : List Nat} (h : ¬ rz L P 0 = 0) : rz L P 0 = ordr L P ∧ nI 0 = tellr L P := by
  have e := rz_row (L := L) (P := P) (r := 0) (Or.inl (by decide))
  unfold ordr tellr ordT tellT
  rw [or_3, e, if_neg h, if_pos h]
  exact ⟨rfl, rfl⟩
theorem jd_1 {L P : List Nat} {v : Int32} (h : rz L P 0 = 0) (h1 : rcmp L (tk L) P (tk P) 1 = v) (hv : v ≠ 0) : v = ordr L P ∧ nI 1 = tellr L P := by
  have e := rz_row (L := L) (P := P) (r := 0) (Or.inl (by decide))
  unfold ordr tellr ordT tellT
  rw [or_3, e, if_pos h, if_neg (by rw [h1]; exact hv), if_neg (fun q => q h), if_pos (by rw [h1]; exact hv)]
  exact ⟨h1.symm, rfl⟩
theorem jd_lo {L P : List Nat} (h : rz L P 0 = 0) (h1 : (tk L 1).length ≠ 0) (h2 : (tk P 1).length = 0) : (-1 : Int32) = ordr L P ∧ nI 1 = tellr L P := by
  refine jd_1 h ?_ (by decide)
  unfold rcmp
  rw [if_pos ⟨rfl, by rw [decide_eq_true (by omega : 0 < (tk L 1).length), decide_eq_false (by omega : ¬ 0 < (tk P 1).length)]; decide⟩, if_pos (by omega)]
theorem jd_hi {L P : List Nat} (h : rz L P 0 = 0) (h1 : (tk L 1).length = 0) (h2 : (tk P 1).length ≠ 0) : nI 1 = ordr L P ∧ nI 1 = tellr L P := by
  refine jd_1 h ?_ (by decide)
  unfold rcmp
  rw [if_pos ⟨rfl, by rw [decide_eq_true (by omega : 0 < (tk P 1).length), decide_eq_false (by omega : ¬ 0 < (tk L 1).length)]; decide⟩, if_neg (by omega)]
  rfl
theorem jd_same {L P : List Nat} (h : ((tk L 1).length = 0 ∧ (tk P 1).length = 0) ∨ ((tk L 1).length ≠ 0 ∧ (tk P 1).length ≠ 0)) : rcmp L (tk L) P (tk P) 1 = rz L P 1 := by
  refine rz_row (Or.inr ?_)
  rcases h with h | h
  · rw [decide_eq_false (by omega : ¬ 0 < (tk L 1).length), decide_eq_false (by omega : ¬ 0 < (tk P 1).length)]
  · rw [decide_eq_true (by omega : 0 < (tk L 1).length), decide_eq_true (by omega : 0 < (tk P 1).length)]
theorem jd_2 {L P : List Nat} (h : rz L P 0 = 0) (h1 : rcmp L (tk L) P (tk P) 1 = 0) : rz L P 2 = ordr L P ∧ (if rz L P 2 = 0 then -1 else nI 2) = tellr L P := by
  have e := rz_row (L := L) (P := P) (r := 0) (Or.inl (by decide))
  have e2 := rz_row (L := L) (P := P) (r := 2) (Or.inl (by decide))
  unfold ordr tellr ordT tellT
  rw [or_3, e, if_pos h, if_pos h1, e2]
  refine ⟨rfl, ?_⟩
  by_cases g : rz L P 2 = 0
  · simp [h, h1, g]
  · simp [h, h1, g]
section GN
variable {p : Program} {l : Launch} {e : Env} {R : Room} {s : State} {m : MethodId} {args : Array Value} {below : List Frame} {meth : Method} {c : Code} {H : Heap} {locs : List Loc} {cells slots : Nat} {Q : State → Prop}
variable {cc : ByteArray} {pc : Nat} {ls : Array Slot} {rest : List Value} {H0 : Heap} {G : gG} {lo hi : Nat}
/-- a new array of numbers or signs -/
theorem x_newarr {k n : Nat} {at_ : ArrayType} (hx : p.tables.exec = Jvm.exec) (hb : c.code = cc) (hty : newarray.typeOf at_ = gTy k) (hk : (k = 0 ∧ componentBytes (gTy k) ≤ 8) ∨ (k = 1 ∧ componentBytes (gTy k) ≤ 8)) (hK : gK G s) (hS : va_S (gA lo hi H0.size) H0 H locs) (harr : (Cond.arrayClass (newarray.typeOf at_)).before args s = true)
    (hn : n ≤ 100) (hcells : cells + 1 ≤ R.cells) (hslots : slots + n ≤ R.slots) (hdg : decode cc pc = .ok (.newarray at_, 2))
    (kk : ∀ (z : Nat) (H1 : Heap), H.size = z → H0.size ≤ z → gI G z k n (fun _ => nI 0) H1 → gF 0 0 H H1 → H1.size = z + 1 → va_S (gA lo hi H0.size) H0 H1 locs → W p l e R s m args below meth c H1 locs (cells + 1) (slots + n) Q (F0 m (pc + 2) ls (.ref z :: rest))) : W p l e R s m args below meth c H locs cells slots Q (F0 m pc ls (.int (nI n) :: rest)) := by
  have hk7 : k < 7 := by omega
  refine va_newaK hx hb harr rfl hdg rfl (nI_pos (by omega)) (nI_clamp (by omega)) ?_ hcells hslots rfl fun H1 cA e1 z1 o1 hAr hNm => ?_
  · rw [hty]
    have h8 : componentBytes (gTy k) ≤ 8 := by omega
    exact Nat.le_trans (Nat.mul_le_mul hn h8) (by decide)
  · have f1 : s.vm.findClass ("[" ++ (gTy k).toString) = some (G.2.1 k) := by
      rcases hk with ⟨rfl, -⟩ | ⟨rfl, -⟩
      · exact (hK.2 0 _ (gTys_at (by decide))).2
      · exact (hK.2 1 _ (gTys_at (by decide))).2
    rw [hty] at hNm e1
    have hc : cA = G.2.1 k := Option.some.inj (hNm.symm.trans f1)
    subst hc
    refine kk H.size H1 rfl hS.1 ?_ ⟨by omega, fun q hq _ => o1 q hq⟩ z1 ⟨Nat.le_trans hS.1 (by omega), fun x h1 h2 => (o1 x (Nat.lt_of_lt_of_le h1 hS.1)).trans (hS.2.1 x h1 h2), hS.2.2⟩
    show H1[H.size]? = some (vp_cell _ _)
    rw [e1]
    rcases hk with ⟨rfl, -⟩ | ⟨rfl, -⟩ <;> rfl
theorem x_newI {n : Nat} (hx : p.tables.exec = Jvm.exec) (hb : c.code = cc) (hK : gK G s) (hS : va_S (gA lo hi H0.size) H0 H locs) (harr : (Cond.arrayClass .int).before args s = true)
    (hn : n ≤ 100) (hcells : cells + 1 ≤ R.cells) (hslots : slots + n ≤ R.slots) (hdg : decode cc pc = .ok (.newarray .int, 2))
    (kk : ∀ (z : Nat) (H1 : Heap), H.size = z → H0.size ≤ z → gI G z 1 n (fun _ => nI 0) H1 → gF 0 0 H H1 → H1.size = z + 1 → va_S (gA lo hi H0.size) H0 H1 locs → W p l e R s m args below meth c H1 locs (cells + 1) (slots + n) Q (F0 m (pc + 2) ls (.ref z :: rest))) : W p l e R s m args below meth c H locs cells slots Q (F0 m pc ls (.int (nI n) :: rest)) :=
  x_newarr (k := 1) (at_ := .int) hx hb rfl (by decide) hK hS harr hn hcells hslots hdg kk
theorem x_newC {n : Nat} (hx : p.tables.exec = Jvm.exec) (hb : c.code = cc) (hK : gK G s) (hS : va_S (gA lo hi H0.size) H0 H locs) (harr : (Cond.arrayClass .char).before args s = true)
    (hn : n ≤ 100) (hcells : cells + 1 ≤ R.cells) (hslots : slots + n ≤ R.slots) (hdg : decode cc pc = .ok (.newarray .char, 2))
    (kk : ∀ (z : Nat) (H1 : Heap), H.size = z → H0.size ≤ z → gI G z 0 n (fun _ => nI 0) H1 → gF 0 0 H H1 → H1.size = z + 1 → va_S (gA lo hi H0.size) H0 H1 locs → W p l e R s m args below meth c H1 locs (cells + 1) (slots + n) Q (F0 m (pc + 2) ls (.ref z :: rest))) : W p l e R s m args below meth c H locs cells slots Q (F0 m pc ls (.int (nI n) :: rest)) :=
  x_newarr (k := 0) (at_ := .char) hx hb rfl (by decide) hK hS harr hn hcells hslots hdg kk
end GN
