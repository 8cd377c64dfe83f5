/-! ===== the reference's order of two slots, with whatever it looked at ===== -/
theorem c_X3_orderE (l : Launch) (G : gG) (y T : Nat) (L : List Nat) (txt : Nat → List Nat) (tad : Nat → Nat) (th : Int32) (i j : Nat) (hi8 : i < 8) (hj8 : j < 8) (H0 : Heap) (hMT : MT G y T L txt tad th H0) (hLE : LE G y H0) : XM l yX3_order wsX3_order RMX3_order G [.ref y, .int (nI i), .int (nI j)] H0 (y + 12) (y + 34) 1 2 (qI (fun r H1 => r = ordr (txt i) (txt j) ∧ LE G y H1)) xN := by
  obtain ⟨w, hLA⟩ := hLE
  exact c_X3_order l G y T L txt tad th w i j hi8 hj8 H0 hMT hLA
theorem befB_t {txt : Nat → List Nat} {x y : Nat} (h : bef txt x y) : befB txt x y = true := befB_iff.mpr h
theorem befB_f {txt : Nat → List Nat} {x y : Nat} (h : ¬ bef txt x y) : befB txt x y = false := by
  cases e : befB txt x y with
  | false => rfl
  | true => exact absurd (befB_iff.mp e) h
/-- what the order looks at, told of two texts that are the same on the slots -/
theorem plc_congr {t1 t2 : Nat → List Nat} (h : ∀ i, i < 8 → t1 i = t2 i) {s : Nat} (hs : s < 8) : plc t1 s = plc t2 s := by
  unfold plc
  refine cntB_congr fun i hi => ?_
  unfold befB
  rw [h i hi, h s hs]
/-- the texts in another order, their rows as they stand -/
theorem MT.sorted {G : gG} {y T : Nat} {L : List Nat} {txt : Nat → List Nat} {tad pm : Nat → Nat} {th : Int32} {H H2 : Heap} {f2 : Nat → Option Nat} {f11 : Nat → Int32} (h : MT G y T L txt tad th H) (hp : ∀ i, i < 8 → pm i < 8) (k2 : gF (y + 2) (y + 12) H H2)
    (c1 : gQ G (y + 2) 4 8 f2 H2) (c2 : gI G (y + 11) 1 8 f11 H2) (hrow : ∀ i, i < 8 → TA G (tad i) (txt i) H2) (hf2 : ∀ i, i < 8 → f2 i = some (tad (pm i))) (hf11 : ∀ i, i < 8 → f11 i = nI (txt (pm i)).length) : MT G y T L (fun i => txt (pm i)) (fun i => tad (pm i)) th H2 := by
  obtain ⟨h1, h2, -, -, h5, h6, h7, h8⟩ := h
  refine ⟨h1.fr k2 (by omega), h2.fr k2 (by omega), ⟨_, c1, hf2⟩, ⟨_, c2, hf11⟩, fun j hj => ?_, h6, h7, Nat.le_trans h8 k2.1⟩
  obtain ⟨a1, a2, a3, a4⟩ := h5 (pm j) (hp j hj)
  exact ⟨hrow _ (hp j hj), a2, a3, a4⟩
/-- the texts of the slots, wherever their rows lie -/
def RowsT (G : gG) (y T : Nat) (txt : Nat → List Nat) (tad : Nat → Nat) (H : Heap) : Prop := ∀ i, i < 8 → TA G (tad i) (txt i) H ∧ ((y + 3 ≤ tad i ∧ tad i < y + 11) ∨ y + 35 ≤ tad i) ∧ tad i < T
theorem RowsT.fr {G : gG} {y T lo hi : Nat} {txt : Nat → List Nat} {tad : Nat → Nat} {H H1 : Heap} (h : RowsT G y T txt tad H) (f : gF lo hi H H1) (hd : hi ≤ y + 3 ∨ (y + 11 ≤ lo ∧ hi ≤ y + 35) ∨ T ≤ lo) : RowsT G y T txt tad H1 := by
  intro i hi8
  obtain ⟨h1, h2, h3⟩ := h i hi8
  exact ⟨h1.fr f (by omega), h2, h3⟩
theorem MT.rows {G : gG} {y T : Nat} {L : List Nat} {txt : Nat → List Nat} {tad : Nat → Nat} {th : Int32} {H : Heap} (h : MT G y T L txt tad th H) : RowsT G y T txt tad H := fun _ hi => ⟨h.tx hi, h.rg hi⟩
theorem srt_q {txt : Nat → List Nat} (hgs : ∀ i, i < 8 → Gt (txt i)) {g : Nat → Option Nat} {tad : Nat → Nat} {j : Nat} (hj : j < 8) (h : ∀ u, u < j → g (plc txt u) = some (tad u)) : ∀ u, u < j + 1 → va_up g (plc txt j) (some (tad j)) (plc txt u) = some (tad u) := by
  intro u hu
  by_cases e : u = j
  · subst e; exact va_up_self _ _ _
  · have hne : plc txt u ≠ plc txt j := fun q => e (plc_inj hgs (by omega) hj q)
    show (if plc txt u = plc txt j then _ else _) = _
    rw [if_neg hne]
    exact h u (by omega)
theorem srt_i {txt : Nat → List Nat} (hgs : ∀ i, i < 8 → Gt (txt i)) {g : Nat → Int32} {j : Nat} (hj : j < 8) (h : ∀ u, u < j → g (plc txt u) = nI (txt u).length) : ∀ u, u < j + 1 → upd g (plc txt j) (nI (txt j).length) (plc txt u) = nI (txt u).length := by
  intro u hu
  by_cases e : u = j
  · subst e; exact pk_us
  · rw [pk_un (fun q => e (plc_inj hgs (by omega) hj q))]
    exact h u (by omega)
section NQ
variable {p : Program} {l : Launch} {e : Env} {R : Room} {s : State} {m : MethodId} {args : Array Value} {below : List Frame} {meth : Method} {c : Code} {H : Heap} {locs : List Loc} {cells slots : Nat} {Q : State → Prop}
variable {cc : ByteArray} {pc : Nat} {ls : Array Slot} {rest : List Value} {H0 : Heap} {G : gG} {lo hi : Nat}
/-- a new array of arrays, without its rows -/
theorem x_newQA {k n index : Nat} {t : FieldType} {own C : String} (hx : p.tables.exec = Jvm.exec) (hb : c.code = cc) (hown : s.vm.findClass own = some m.cls) (hclink : (Cond.classLink own index C).before args s = true) (hC : (FieldType.array t).toString = C) (hover : gAr t s) (hty : gTy k = .array t) (hk7 : k < 7) (hK : gK G s) (hS : va_S (gA lo hi H0.size) H0 H locs)
    (hn : n ≤ 100) (hcells : cells + 1 ≤ R.cells) (hslots : slots + n ≤ R.slots) (hdg : decode cc pc = .ok (.anewarray index, 3))
    (kk : ∀ (z : Nat) (H1 : Heap), H.size = z → H0.size ≤ z → gQ G z k n (fun _ => none) H1 → gF 0 0 H H1 → H1.size = z + 1 → va_S (gA lo hi H0.size) H0 H1 locs → W p l e R s m args below meth c H1 locs (cells + 1) (slots + n) Q (F0 m (pc + 3) ls (.ref z :: rest))) : W p l e R s m args below meth c H locs cells slots Q (F0 m pc ls (.int (nI n) :: rest)) := by
  subst hC
  have e : (nI n).toNatClampNeg = n := nI_clamp (by omega)
  refine W.anewA (t := t) hx hb hown hclink hover rfl hdg rfl (nI_pos (by omega)) (by rw [e]; omega) hcells (by rw [e]; exact hslots) fun cA kA comp f1 f2 f3 f4 => ?_
  rw [e]
  have g1 := (hK.2 k _ (gTys_at hk7)).2
  rw [hty] at g1
  have hc : cA = G.2.1 k := Option.some.inj (f1.symm.trans g1)
  generalize hH1 : H.push ({ cls := cA, slots := Array.replicate n .null, vm := .none } : Cell) = H1
  have z1 : H1.size = H.size + 1 := by rw [← hH1, Array.size_push]
  have e1 : H1[H.size]? = some (arrV cA n (fun _ => .null)) := by rw [← hH1, Array.getElem?_push_size, ← arrV_new]
  have o1 : ∀ q : Nat, q < H.size → H1[q]? = H[q]? := fun q hq => by rw [← hH1, Array.getElem?_push, if_neg (Nat.ne_of_lt hq)]
  subst hc
  refine kk H.size H1 rfl hS.1 ?_ ⟨by omega, fun q hq _ => o1 q hq⟩ z1 ⟨Nat.le_trans hS.1 (by omega), fun x h1 h2 => (o1 x (Nat.lt_of_lt_of_le h1 hS.1)).trans (hS.2.1 x h1 h2), hS.2.2⟩
  show H1[H.size]? = some (vp_cell _ _)
  rw [vp_cell_q]
  exact e1
end NQ
