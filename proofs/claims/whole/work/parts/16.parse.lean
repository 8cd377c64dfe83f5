/-! ===== tokens of a text, sign by sign; versions; the order of rows ===== -/
/-- tokens by row: where each starts, where it ends -/
abbrev Tk : Type := Nat → List (Nat × Nat)
def rowB (r ch : Nat) : Nat := if r = 0 ∧ ch = 45 then 1 else if r = 1 ∧ ch = 43 then 2 else r
theorem rowB_1 {ch : Nat} (h : ch = 45) : rowB 0 ch = 1 := if_pos ⟨rfl, h⟩
theorem rowB_2 {ch : Nat} (h : ch = 43) : rowB 1 ch = 2 := by unfold rowB; rw [if_neg (by omega), if_pos ⟨rfl, h⟩]
theorem rowB_3 {r ch : Nat} (h : r ≠ 0 ∨ ch ≠ 45) (h2 : r ≠ 1 ∨ ch ≠ 43) : rowB r ch = r := by unfold rowB; rw [if_neg (by omega), if_neg (by omega)]
theorem rowB_lt {r ch : Nat} (h : r < 3) : rowB r ch < 3 := by unfold rowB; split <;> (try split) <;> omega
def addT (T : Tk) (r : Nat) (x : Nat × Nat) : Tk := fun j => if j = r then T j ++ [x] else T j
def tg (l : List (Nat × Nat)) (i : Nat) : Nat × Nat := l.getD i (0, 0)
def growT (T : Tk) (r e : Nat) : Tk := fun j => if j = r then (T j).dropLast ++ [((tg (T j) ((T j).length - 1)).1, e)] else T j
theorem tg_app {l m : List (Nat × Nat)} {i : Nat} (h : i < l.length) : tg (l ++ m) i = tg l i := by unfold tg; simp [List.getD, List.getElem?_append_left h]
theorem tg_new {l : List (Nat × Nat)} {x : Nat × Nat} : tg (l ++ [x]) l.length = x := by unfold tg; simp [List.getD]
theorem tg_drop {l : List (Nat × Nat)} {i : Nat} (h : i < l.length - 1) : tg l.dropLast i = tg l i := by
  unfold tg
  simp only [List.getD, List.getElem?_dropLast]
  rw [if_pos h]
theorem tg_mem {l : List (Nat × Nat)} {i : Nat} (h : i < l.length) : tg l i ∈ l := by
  unfold tg
  simp [List.getD, List.getElem?_eq_getElem h]
theorem addT_self {T : Tk} {r : Nat} {x : Nat × Nat} : addT T r x r = T r ++ [x] := if_pos rfl
theorem addT_ne {T : Tk} {r j : Nat} {x : Nat × Nat} (h : j ≠ r) : addT T r x j = T j := if_neg h
theorem growT_self {T : Tk} {r e : Nat} : growT T r e r = (T r).dropLast ++ [((tg (T r) ((T r).length - 1)).1, e)] := if_pos rfl
theorem growT_ne {T : Tk} {r j e : Nat} (h : j ≠ r) : growT T r e j = T j := if_neg h
theorem growT_len {T : Tk} {r e j : Nat} (h : 0 < (T r).length) : (growT T r e j).length = (T j).length := by
  by_cases hj : j = r
  · subst hj
    rw [growT_self]
    simp
    omega
  · rw [growT_ne hj]
/-- one sign: the row, the kind of the sign before, the tokens -/
abbrev PS : Type := Nat × Nat × Tk
def pstep (L : List Nat) (q : Nat) (z : PS) : PS :=
  if kd (cg L q) = 0 then (rowB z.1 (cg L q), 0, z.2.2)
  else if kd (cg L q) ≠ z.2.1 then (z.1, kd (cg L q), growT (addT z.2.2 z.1 (q, q)) z.1 (q + 1))
  else (z.1, kd (cg L q), growT z.2.2 z.1 (q + 1))
def pf (L : List Nat) : Nat → PS
  | 0 => (0, 0, fun _ => [])
  | q + 1 => pstep L q (pf L q)
def tk (L : List Nat) : Tk := (pf L L.length).2.2
theorem pstep_joint {L : List Nat} {q : Nat} {z : PS} (h : kd (cg L q) = 0) : pstep L q z = (rowB z.1 (cg L q), 0, z.2.2) := if_pos h
theorem pstep_new {L : List Nat} {q : Nat} {z : PS} (h : kd (cg L q) ≠ 0) (h2 : kd (cg L q) ≠ z.2.1) : pstep L q z = (z.1, kd (cg L q), growT (addT z.2.2 z.1 (q, q)) z.1 (q + 1)) := by unfold pstep; rw [if_neg h, if_pos h2]
theorem pstep_old {L : List Nat} {q : Nat} {z : PS} (h : kd (cg L q) ≠ 0) (h2 : kd (cg L q) = z.2.1) : pstep L q z = (z.1, kd (cg L q), growT z.2.2 z.1 (q + 1)) := by unfold pstep; rw [if_neg h, if_neg (fun g => g h2)]
/-- what holds of the fold: the row is one of three; so many tokens at most; one goes on where the sign before was no joint -/
def pinv (L : List Nat) (q : Nat) (z : PS) : Prop := z.1 < 3 ∧ (∀ r, (z.2.2 r).length ≤ q) ∧ (z.2.1 ≠ 0 → 0 < (z.2.2 z.1).length ∧ (tg (z.2.2 z.1) ((z.2.2 z.1).length - 1)).2 = q ∧ kd (cg L (tg (z.2.2 z.1) ((z.2.2 z.1).length - 1)).1) = z.2.1) ∧ (∀ r i, i < (z.2.2 r).length → (tg (z.2.2 r) i).1 < (tg (z.2.2 r) i).2 ∧ (tg (z.2.2 r) i).2 ≤ q ∧ kd (cg L (tg (z.2.2 r) i).1) ≠ 0) ∧ z.2.1 < 3
theorem last_grow {T : Tk} {r e : Nat} (h : 0 < (T r).length) : tg (growT T r e r) ((growT T r e r).length - 1) = ((tg (T r) ((T r).length - 1)).1, e) := by
  rw [growT_len h, growT_self]
  have : (T r).length - 1 = (T r).dropLast.length := by simp
  rw [this, tg_new]
theorem tg_grow {T : Tk} {r e i : Nat} (h : i < (T r).length - 1) : tg (growT T r e r) i = tg (T r) i := by
  rw [growT_self, tg_app (by simp; omega), tg_drop h]
theorem pf_inv (L : List Nat) : ∀ q, pinv L q (pf L q) := by
  intro q
  induction q with
  | zero => exact ⟨(by decide : 0 < 3), fun r => Nat.le_refl _, fun h => absurd rfl h, fun r i h => absurd h (Nat.not_lt_zero _), (by decide : 0 < 3)⟩
  | succ q ih =>
    obtain ⟨h1, h2, h3, h4, h5⟩ := ih
    show pinv L (q + 1) (pstep L q (pf L q))
    generalize pf L q = z at h1 h2 h3 h4 h5 ⊢
    by_cases k0 : kd (cg L q) = 0
    · rw [pstep_joint k0]
      exact ⟨rowB_lt h1, fun r => Nat.le_succ_of_le (h2 r), fun h => absurd rfl h, fun r i h => ⟨(h4 r i h).1, Nat.le_succ_of_le (h4 r i h).2.1, (h4 r i h).2.2⟩, (by decide : 0 < 3)⟩
    · by_cases k1 : kd (cg L q) = z.2.1
      · obtain ⟨g1, g2, g3⟩ := h3 (by rw [← k1]; exact k0)
        rw [pstep_old k0 k1]
        refine ⟨h1, fun r => ?_, fun _ => ⟨?_, ?_, ?_⟩, fun r i hi => ?_, kd_lt _⟩
        · show (growT z.2.2 z.1 (q + 1) r).length ≤ q + 1
          rw [growT_len g1]
          exact Nat.le_succ_of_le (h2 r)
        · show 0 < (growT z.2.2 z.1 (q + 1) z.1).length
          rw [growT_len g1]
          exact g1
        · show (tg (growT z.2.2 z.1 (q + 1) z.1) _).2 = _
          rw [last_grow g1]
        · show kd (cg L (tg (growT z.2.2 z.1 (q + 1) z.1) _).1) = _
          rw [last_grow g1]
          show kd (cg L (tg (z.2.2 z.1) _).1) = kd (cg L q)
          rw [g3, k1]
        · have hi' : i < (growT z.2.2 z.1 (q + 1) r).length := hi
          rw [growT_len g1] at hi'
          have key : (tg (growT z.2.2 z.1 (q + 1) r) i).1 < (tg (growT z.2.2 z.1 (q + 1) r) i).2 ∧ (tg (growT z.2.2 z.1 (q + 1) r) i).2 ≤ q + 1 ∧ kd (cg L (tg (growT z.2.2 z.1 (q + 1) r) i).1) ≠ 0 := by
            by_cases hr : r = z.1
            · subst hr
              by_cases hl : i < (z.2.2 z.1).length - 1
              · rw [tg_grow hl]
                have := h4 _ i hi'
                exact ⟨this.1, by omega, this.2.2⟩
              · have e : i = (growT z.2.2 z.1 (q + 1) z.1).length - 1 := by rw [growT_len g1]; omega
                rw [e, last_grow g1]
                have := h4 z.1 ((z.2.2 z.1).length - 1) (by omega)
                exact ⟨by show _ < q + 1; omega, Nat.le_refl _, this.2.2⟩
            · rw [growT_ne hr]
              have := h4 r i hi'
              exact ⟨this.1, by omega, this.2.2⟩
          exact key
      · rw [pstep_new k0 k1]
        have g1 : 0 < (addT z.2.2 z.1 (q, q) z.1).length := by rw [addT_self]; simp
        have gl : tg (addT z.2.2 z.1 (q, q) z.1) ((addT z.2.2 z.1 (q, q) z.1).length - 1) = (q, q) := by
          rw [addT_self]
          simp only [List.length_append, List.length_singleton, Nat.add_sub_cancel]
          exact tg_new
        refine ⟨h1, fun r => ?_, fun _ => ⟨?_, ?_, ?_⟩, fun r i hi => ?_, kd_lt _⟩
        · show (growT (addT z.2.2 z.1 (q, q)) z.1 (q + 1) r).length ≤ q + 1
          rw [growT_len g1]
          by_cases hr : r = z.1
          · subst hr
            rw [addT_self]
            have := h2 z.1
            simp
            omega
          · rw [addT_ne hr]
            exact Nat.le_succ_of_le (h2 r)
        · show 0 < (growT (addT z.2.2 z.1 (q, q)) z.1 (q + 1) z.1).length
          rw [growT_len g1]
          exact g1
        · show (tg (growT (addT z.2.2 z.1 (q, q)) z.1 (q + 1) z.1) _).2 = _
          rw [last_grow g1]
        · show kd (cg L (tg (growT (addT z.2.2 z.1 (q, q)) z.1 (q + 1) z.1) _).1) = _
          rw [last_grow g1, gl]
        · have hi' : i < (growT (addT z.2.2 z.1 (q, q)) z.1 (q + 1) r).length := hi
          rw [growT_len g1] at hi'
          have key : (tg (growT (addT z.2.2 z.1 (q, q)) z.1 (q + 1) r) i).1 < (tg (growT (addT z.2.2 z.1 (q, q)) z.1 (q + 1) r) i).2 ∧ (tg (growT (addT z.2.2 z.1 (q, q)) z.1 (q + 1) r) i).2 ≤ q + 1 ∧ kd (cg L (tg (growT (addT z.2.2 z.1 (q, q)) z.1 (q + 1) r) i).1) ≠ 0 := by
            by_cases hr : r = z.1
            · subst hr
              rw [addT_self] at hi'
              simp at hi'
              by_cases hl : i < (z.2.2 z.1).length
              · rw [tg_grow (by rw [addT_self]; simp; exact hl), addT_self, tg_app hl]
                have := h4 _ i hl
                exact ⟨this.1, by omega, this.2.2⟩
              · have e : i = (growT (addT z.2.2 z.1 (q, q)) z.1 (q + 1) z.1).length - 1 := by rw [growT_len g1, addT_self]; simp; omega
                rw [e, last_grow g1, gl]
                exact ⟨Nat.lt_succ_self q, Nat.le_refl _, k0⟩
            · rw [growT_ne hr, addT_ne hr]
              rw [addT_ne hr] at hi'
              have := h4 r i hi'
              exact ⟨this.1, by omega, this.2.2⟩
          exact key
/-- the value of k digits from s on -/
def nv (L : List Nat) (s : Nat) : Nat → Nat
  | 0 => 0
  | k + 1 => 10 * nv L s k + (cg L (s + k) - 48)
/-- a word of k letters, as it is kept -/
def wI (k : Nat) : Int32 := (-1) - nI k
/-- a token's size, as it is kept -/
def szI (L : List Nat) (t : Nat × Nat) : Int32 := if kd (cg L t.1) = 1 then nI (nv L t.1 (t.2 - t.1)) else wI (t.2 - t.1)
theorem szI_d {L : List Nat} {t : Nat × Nat} (h : kd (cg L t.1) = 1) : szI L t = nI (nv L t.1 (t.2 - t.1)) := if_pos h
theorem szI_w {L : List Nat} {t : Nat × Nat} (h : kd (cg L t.1) ≠ 1) : szI L t = wI (t.2 - t.1) := if_neg h
theorem wI_0 : wI 0 = -1 := rfl
theorem i_ss (a b : Int32) : a - (a - b) = b := by
  apply Int32.toBitVec_inj.mp
  rw [Int32.toBitVec_sub, Int32.toBitVec_sub]
  generalize a.toBitVec = x
  generalize b.toBitVec = y
  apply BitVec.eq_of_toNat_eq
  have h1 := x.isLt
  have h2 := y.isLt
  simp only [BitVec.toNat_sub]
  omega
theorem i_sa (a b d : Int32) : a - b - d = a - (b + d) := by
  apply Int32.toBitVec_inj.mp
  rw [Int32.toBitVec_sub, Int32.toBitVec_sub, Int32.toBitVec_sub, Int32.toBitVec_add]
  generalize a.toBitVec = x
  generalize b.toBitVec = y
  generalize d.toBitVec = z
  apply BitVec.eq_of_toNat_eq
  have h1 := x.isLt
  have h2 := y.isLt
  have h3 := z.isLt
  simp only [BitVec.toNat_sub, BitVec.toNat_add]
  omega
theorem wI_back (k : Nat) : (-1) - wI k = nI k := i_ss _ _
theorem wI_succ (k : Nat) : wI k - nI 1 = wI (k + 1) := by
  unfold wI
  rw [i_sa, nI_add]
theorem wI_toInt {k : Nat} (h : k < 2147483648) : (wI k).toInt = -1 - (k : Int) := by
  unfold wI
  rw [Int32.toInt_sub, nI_toInt (n := k) h]
  show (-1 - (k : Int)).bmod (2 ^ 32) = _
  rw [Int.bmod_eq_of_le] <;> omega
theorem wI_neg {k : Nat} (h : k < 2147483648) : wI k < 0 := by
  rw [Int32.lt_iff_toInt_lt, wI_toInt h]
  show (-1 - (k : Int)) < 0
  omega
/-- references to three rows from b on -/
def rw3 (b : Nat) : Nat → Option Nat := fun j => if j < 3 then some (b + j) else none
theorem rw3_at {b r : Nat} (h : r < 3) : rw3 b r = some (b + r) := if_pos h
/-- a version at v (twelve cells): its text L; its rows anyhow -/
def Vs (G : gG) (v : Nat) (H : Heap) : Prop := gO G v 1 [.ref (v + 1), .ref (v + 3), .ref (v + 7), .ref (v + 11)] H ∧ gQ G (v + 3) 3 3 (rw3 (v + 4)) H ∧ gQ G (v + 7) 3 3 (rw3 (v + 8)) H
def Vo (G : gG) (v : Nat) (L : List Nat) (H : Heap) : Prop := Vs G v H ∧ Tx G (v + 1) L H ∧ (∃ fc : Nat → Int32, gI G (v + 11) 1 3 fc H) ∧ ∀ r, r < 3 → ∃ fs fz : Nat → Int32, gI G (v + 4 + r) 1 60 fs H ∧ gI G (v + 8 + r) 1 60 fz H
/-- a version at v: its text L, its tokens T -/
def VR (G : gG) (v : Nat) (L : List Nat) (T : Tk) (H : Heap) : Prop := Vs G v H ∧ Tx G (v + 1) L H ∧ (∃ fc : Nat → Int32, gI G (v + 11) 1 3 fc H ∧ ∀ r, r < 3 → fc r = nI (T r).length) ∧ (∀ r, r < 3 → ∃ fs fz : Nat → Int32, gI G (v + 4 + r) 1 60 fs H ∧ gI G (v + 8 + r) 1 60 fz H ∧ ∀ i, i < (T r).length → fs i = nI (tg (T r) i).1 ∧ fz i = szI L (tg (T r) i)) ∧ ∀ r, r < 3 → (T r).length ≤ 60
theorem Vs.fr {G : gG} {v lo hi : Nat} {H H1 : Heap} (h : Vs G v H) (f : gF lo hi H H1) (hd : (v < lo ∨ hi ≤ v) ∧ (v + 3 < lo ∨ hi ≤ v + 3) ∧ (v + 7 < lo ∨ hi ≤ v + 7)) : Vs G v H1 := ⟨h.1.fr f hd.1, h.2.1.fr f hd.2.1, h.2.2.fr f hd.2.2⟩
theorem Vo.fr {G : gG} {v lo hi : Nat} {L : List Nat} {H H1 : Heap} (h : Vo G v L H) (f : gF lo hi H H1) (hd : v + 12 ≤ lo ∨ hi ≤ v) : Vo G v L H1 := by
  obtain ⟨h1, h2, ⟨fc, h3⟩, h4⟩ := h
  refine ⟨h1.fr f (by omega), h2.fr f (by omega), ⟨fc, h3.fr f (by omega)⟩, fun r hr => ?_⟩
  obtain ⟨fs, fz, g1, g2⟩ := h4 r hr
  exact ⟨fs, fz, g1.fr f (by omega), g2.fr f (by omega)⟩
theorem VR.fr {G : gG} {v lo hi : Nat} {L : List Nat} {T : Tk} {H H1 : Heap} (h : VR G v L T H) (f : gF lo hi H H1) (hd : v + 12 ≤ lo ∨ hi ≤ v) : VR G v L T H1 := by
  obtain ⟨h1, h2, ⟨fc, h3, h3b⟩, h4, h5⟩ := h
  refine ⟨h1.fr f (by omega), h2.fr f (by omega), ⟨fc, h3.fr f (by omega), h3b⟩, fun r hr => ?_, h5⟩
  obtain ⟨fs, fz, g1, g2, g3⟩ := h4 r hr
  exact ⟨fs, fz, g1.fr f (by omega), g2.fr f (by omega), g3⟩
theorem VR.vo {G : gG} {v : Nat} {L : List Nat} {T : Tk} {H : Heap} (h : VR G v L T H) : Vo G v L H := by
  obtain ⟨h1, h2, ⟨fc, h3, h3b⟩, h4, h5⟩ := h
  refine ⟨h1, h2, ⟨fc, h3⟩, fun r hr => ?_⟩
  obtain ⟨fs, fz, g1, g2, g3⟩ := h4 r hr
  exact ⟨fs, fz, g1, g2⟩
theorem Vo.setT {G : gG} {v : Nat} {L M : List Nat} {H H1 : Heap} (h : Vo G v L H) (f : gF (v + 1) (v + 1 + 2) H H1) (hT : Tx G (v + 1) M H1) : Vo G v M H1 := by
  obtain ⟨h1, h2, ⟨fc, h3⟩, h4⟩ := h
  refine ⟨h1.fr f (by omega), hT, ⟨fc, h3.fr f (by omega)⟩, fun r hr => ?_⟩
  obtain ⟨fs, fz, g1, g2⟩ := h4 r hr
  exact ⟨fs, fz, g1.fr f (by omega), g2.fr f (by omega)⟩
theorem Vo.lt {G : gG} {v : Nat} {L : List Nat} {H : Heap} (h : Vo G v L H) : v + 12 ≤ H.size := by
  obtain ⟨h1, h2, ⟨fc, h3⟩, h4⟩ := h
  exact h3.lt
theorem VR.recv {G : gG} {v : Nat} {L : List Nat} {T : Tk} {H : Heap} {s : State} (hK : gK G s) (h : VR G v L T H) : ∃ cell : Cell, H[v]? = some cell ∧ cell.vm.isStatics = false ∧ s.vm.findClass RX1 = some cell.cls := gO.recv (C := RX1) hK h.1.1 rfl
theorem Vo.recv {G : gG} {v : Nat} {L : List Nat} {H : Heap} {s : State} (hK : gK G s) (h : Vo G v L H) : ∃ cell : Cell, H[v]? = some cell ∧ cell.vm.isStatics = false ∧ s.vm.findClass RX1 = some cell.cls := gO.recv (C := RX1) hK h.1.1 rfl
/-- a token behind the tokens of row r; the last one one sign longer -/
theorem VR.cell {G : gG} {v r : Nat} {L : List Nat} {T : Tk} {H : Heap} (h : VR G v L T H) (hr : r < 3) : ∃ fs fz : Nat → Int32, gI G (v + 4 + r) 1 60 fs H ∧ gI G (v + 8 + r) 1 60 fz H ∧ ∀ i, i < (T r).length → fs i = nI (tg (T r) i).1 ∧ fz i = szI L (tg (T r) i) := h.2.2.2.1 r hr
theorem VR.grow {G : gG} {v r q : Nat} {L : List Nat} {T : Tk} {H H1 : Heap} {fz : Nat → Int32} (h : VR G v L T H) (hr : r < 3) (hpos : 0 < (T r).length) (f : gF (v + 8 + r) (v + 8 + r + 1) H H1) (hfz : ∀ i, i < (T r).length → fz i = szI L (tg (T r) i)) (hc : gI G (v + 8 + r) 1 60 (upd fz ((T r).length - 1) (szI L ((tg (T r) ((T r).length - 1)).1, q))) H1) : VR G v L (growT T r q) H1 := by
  obtain ⟨h1, h2, ⟨fc, h3, h3b⟩, h4, h5⟩ := h
  refine ⟨h1.fr f (by omega), h2.fr f (by omega), ⟨fc, h3.fr f (by omega), fun j hj => ?_⟩, fun j hj => ?_, fun j hj => ?_⟩
  · rw [growT_len hpos]; exact h3b j hj
  · obtain ⟨fs, fw, g1, g2, g3⟩ := h4 j hj
    by_cases e : j = r
    · subst e
      refine ⟨fs, _, g1.fr f (by omega), hc, fun i hi => ?_⟩
      rw [growT_len hpos] at hi
      by_cases hl : i < (T j).length - 1
      · rw [tg_grow hl]
        refine ⟨(g3 i hi).1, ?_⟩
        rw [← hfz i hi]
        simp [upd, show i ≠ (T j).length - 1 by omega]
      · have e2 : i = (T j).length - 1 := by omega
        subst e2
        have e3 := last_grow (T := T) (r := j) (e := q) hpos
        rw [growT_len hpos] at e3
        rw [e3]
        refine ⟨(g3 _ hi).1, ?_⟩
        simp [upd]
    · refine ⟨fs, fw, g1.fr f (by omega), g2.fr f (by omega), fun i hi => ?_⟩
      rw [growT_ne e] at hi ⊢
      exact g3 i hi
  · rw [growT_len hpos]; exact h5 j hj
theorem VR.add {G : gG} {v r q : Nat} {L : List Nat} {T : Tk} {H H1 H2 H3 : Heap} {fs fz fc : Nat → Int32} (h : VR G v L T H) (hr : r < 3) (hlen : (T r).length < 60) (f1 : gF (v + 4 + r) (v + 4 + r + 1) H H1) (f2 : gF (v + 8 + r) (v + 8 + r + 1) H1 H2) (f3 : gF (v + 11) (v + 11 + 1) H2 H3)
    (hfs : ∀ i, i < (T r).length → fs i = nI (tg (T r) i).1 ∧ fz i = szI L (tg (T r) i)) (hfc : ∀ j, j < 3 → fc j = nI (T j).length)
    (cs : gI G (v + 4 + r) 1 60 (upd fs (T r).length (nI q)) H3) (cz : gI G (v + 8 + r) 1 60 (upd fz (T r).length (szI L (q, q))) H3) (c0 : gI G (v + 11) 1 3 (upd fc r (nI ((T r).length + 1))) H3) : VR G v L (addT T r (q, q)) H3 := by
  obtain ⟨h1, h2, ⟨fc0, h3, h3b⟩, h4, h5⟩ := h
  refine ⟨((h1.fr f1 (by omega)).fr f2 (by omega)).fr f3 (by omega), ((h2.fr f1 (by omega)).fr f2 (by omega)).fr f3 (by omega), ⟨_, c0, fun j hj => ?_⟩, fun j hj => ?_, fun j hj => ?_⟩
  · by_cases e : j = r
    · subst e
      rw [addT_self]
      simp [upd]
    · rw [addT_ne e, ← hfc j hj]
      simp [upd, e]
  · obtain ⟨ft, fw, g1, g2, g3⟩ := h4 j hj
    by_cases e : j = r
    · subst e
      refine ⟨_, _, cs, cz, fun i hi => ?_⟩
      rw [addT_self] at hi ⊢
      simp at hi
      by_cases hl : i < (T j).length
      · rw [tg_app hl, ← (hfs i hl).1, ← (hfs i hl).2]
        simp [upd, show i ≠ (T j).length by omega]
      · have e2 : i = (T j).length := by omega
        subst e2
        rw [tg_new]
        simp [upd]
    · refine ⟨ft, fw, ((g1.fr f1 (by omega)).fr f2 (by omega)).fr f3 (by omega), ((g2.fr f1 (by omega)).fr f2 (by omega)).fr f3 (by omega), fun i hi => ?_⟩
      rw [addT_ne e] at hi ⊢
      exact g3 i hi
  · by_cases e : j = r
    · subst e
      rw [addT_self]
      simp
      omega
    · rw [addT_ne e]; exact h5 j hj
/-- a version whose first i counts are 0 -/
def Vz (G : gG) (v : Nat) (L : List Nat) (i : Nat) (H : Heap) : Prop := Vs G v H ∧ Tx G (v + 1) L H ∧ (∃ fc : Nat → Int32, gI G (v + 11) 1 3 fc H ∧ ∀ j, j < i → fc j = nI 0) ∧ ∀ r, r < 3 → ∃ fs fz : Nat → Int32, gI G (v + 4 + r) 1 60 fs H ∧ gI G (v + 8 + r) 1 60 fz H
theorem Vo.z {G : gG} {v : Nat} {L : List Nat} {H : Heap} (h : Vo G v L H) : Vz G v L 0 H := by
  obtain ⟨h1, h2, ⟨fc, h3⟩, h4⟩ := h
  exact ⟨h1, h2, ⟨fc, h3, lt_0⟩, h4⟩
theorem Vz.step {G : gG} {v i : Nat} {L : List Nat} {H H1 : Heap} {fc : Nat → Int32} (h : Vz G v L i H) (f : gF (v + 11) (v + 11 + 1) H H1) (hfc : ∀ j, j < i → fc j = nI 0) (hc : gI G (v + 11) 1 3 (upd fc i (nI 0)) H1) : Vz G v L (i + 1) H1 := by
  obtain ⟨h1, h2, h3, h4⟩ := h
  refine ⟨h1.fr f (by omega), h2.fr f (by omega), ⟨_, hc, fun j hj => ?_⟩, fun r hr => ?_⟩
  · by_cases e : j = i
    · subst e; simp [upd]
    · rw [← hfc j (by omega)]; simp [upd, e]
  · obtain ⟨fs, fz, g1, g2⟩ := h4 r hr
    exact ⟨fs, fz, g1.fr f (by omega), g2.fr f (by omega)⟩
theorem Vz.done {G : gG} {v i : Nat} {L : List Nat} {H : Heap} (h : Vz G v L i H) (hi : 3 ≤ i) : VR G v L (fun _ => []) H := by
  obtain ⟨h1, h2, ⟨fc, h3, h3b⟩, h4⟩ := h
  refine ⟨h1, h2, ⟨fc, h3, fun r hr => h3b r (by omega)⟩, fun r hr => ?_, fun r hr => Nat.zero_le _⟩
  obtain ⟨fs, fz, g1, g2⟩ := h4 r hr
  exact ⟨fs, fz, g1, g2, fun i hi => absurd hi (Nat.not_lt_zero _)⟩
def cntT (T : Tk) : Nat → Nat
  | 0 => 0
  | i + 1 => cntT T i + (T i).length
/-- words among the first i tokens of a row; among the rows -/
def wcr (L : List Nat) (l : List (Nat × Nat)) : Nat → Nat
  | 0 => 0
  | i + 1 => wcr L l i + (if kd (cg L (tg l i).1) = 1 then 0 else 1)
def wct (L : List Nat) (T : Tk) : Nat → Nat
  | 0 => 0
  | r + 1 => wct L T r + wcr L (T r) (T r).length
/-- no number of the text is too great -/
def Jt (L : List Nat) (T : Tk) : Prop := ∀ r, r < 3 → ∀ i, i < (T r).length → (tg (T r) i).1 < (tg (T r) i).2 ∧ (tg (T r) i).2 ≤ L.length ∧ (tg (T r) i).2 - (tg (T r) i).1 < 2147483648 ∧ (kd (cg L (tg (T r) i).1) = 1 → nv L (tg (T r) i).1 ((tg (T r) i).2 - (tg (T r) i).1) < 2147483648)
theorem Jt.neg {L : List Nat} {T : Tk} {r i : Nat} (h : Jt L T) (hr : r < 3) (hi : i < (T r).length) : szI L (tg (T r) i) < 0 ↔ kd (cg L (tg (T r) i).1) ≠ 1 := by
  obtain ⟨-, -, h1, h2⟩ := h r hr i hi
  by_cases hk : kd (cg L (tg (T r) i).1) = 1
  · rw [szI_d hk]
    exact ⟨fun g => absurd g (nI_pos (h2 hk)), fun g => absurd hk g⟩
  · rw [szI_w hk]
    exact ⟨fun _ => hk, fun _ => wI_neg h1⟩
/-- a token's size as it is told, 0 behind the end; where it starts -/
def tsz (L : List Nat) (T : Tk) (r i : Nat) : Int32 := if i < (T r).length then szI L (tg (T r) i) else nI 0
def tst (T : Tk) (r i : Nat) : Nat := if i < (T r).length then (tg (T r) i).1 else 0
theorem tsz_in {L : List Nat} {T : Tk} {r i : Nat} (h : i < (T r).length) : tsz L T r i = szI L (tg (T r) i) := if_pos h
theorem tsz_out {L : List Nat} {T : Tk} {r i : Nat} (h : ¬ i < (T r).length) : tsz L T r i = nI 0 := if_neg h
theorem tst_in {T : Tk} {r i : Nat} (h : i < (T r).length) : tst T r i = (tg (T r) i).1 := if_pos h
theorem tst_out {T : Tk} {r i : Nat} (h : ¬ i < (T r).length) : tst T r i = 0 := if_neg h
/-- a word is at a place -/
def isW (L : List Nat) (T : Tk) (r i : Nat) : Prop := i < (T r).length ∧ kd (cg L (tg (T r) i).1) ≠ 1
/-- the order of ints -/
def oI (x y : Int32) : Int32 := if x = y then 0 else if x < y then -1 else 1
theorem oI_N {a b : Nat} (ha : a < 2147483648) (hb : b < 2147483648) : oI (nI a) (nI b) = oN a b := by
  unfold oI oN
  simp only [nI_eq ha hb, nI_ltI ha hb]
/-- the first of f 0 .. f (n - 1) that isn't 0, else 0 -/
def fz (f : Nat → Int32) : Nat → Int32
  | 0 => 0
  | n + 1 => if fz f n = 0 then f n else fz f n
theorem fz_none {f : Nat → Int32} {n : Nat} (h : ∀ j, j < n → f j = 0) : fz f n = 0 := by
  induction n with
  | zero => rfl
  | succ n ih =>
    show (if fz f n = 0 then f n else fz f n) = 0
    rw [if_pos (ih (fun j hj => h j (by omega)))]
    exact h n (by omega)
theorem fz_hit {f : Nat → Int32} {i : Nat} (h : ∀ j, j < i → f j = 0) (hi : f i ≠ 0) : ∀ {n : Nat}, i < n → fz f n = f i := by
  intro n hn
  induction n with
  | zero => omega
  | succ n ih =>
    show (if fz f n = 0 then f n else fz f n) = f i
    rcases Nat.lt_or_ge i n with g | g
    · rw [ih g, if_neg hi]
    · have e : i = n := by omega
      subst e
      rw [if_pos (fz_none h)]
/-- the order of two words: letters of L from s on, n of them; of M from t on, k of them -/
def ow (L M : List Nat) (s n t k : Nat) : Int32 := if fz (fun j => oI (nI (cg L (s + j))) (nI (cg M (t + j)))) (min n k) = 0 then oI (nI n) (nI k) else fz (fun j => oI (nI (cg L (s + j))) (nI (cg M (t + j)))) (min n k)
/-- the order of two sizes that aren't both words' -/
def oS (x y : Int32) : Int32 := if x < 0 then 1 else if y < 0 then -1 else oI x y
/-- the order of the tokens at a place of a row -/
def tcmp (L : List Nat) (T : Tk) (M : List Nat) (S : Tk) (r i : Nat) : Int32 := if tsz L T r i < 0 ∧ tsz M S r i < 0 then ow L M (tg (T r) i).1 ((tg (T r) i).2 - (tg (T r) i).1) (tg (S r) i).1 ((tg (S r) i).2 - (tg (S r) i).1) else oS (tsz L T r i) (tsz M S r i)
def rcmp (L : List Nat) (T : Tk) (M : List Nat) (S : Tk) (r : Nat) : Int32 := if r = 1 ∧ decide (0 < (T 1).length) ≠ decide (0 < (S 1).length) then (if 0 < (T 1).length then -1 else 1) else fz (fun i => tcmp L T M S r i) (max (T r).length (S r).length)
theorem kd_48 {c : Nat} (h : kd c = 1) : 48 ≤ c := by
  unfold kd at h
  split at h
  · omega
  · split at h <;> omega
theorem nv_grow {L : List Nat} {s q ch : Nat} (hs : s ≤ q) (hch : ch = cg L q) : 10 * nv L s (q - s) + (ch - 48) = nv L s (q + 1 - s) := by
  rw [show q + 1 - s = (q - s) + 1 by omega]
  show _ = 10 * nv L s (q - s) + (cg L (s + (q - s)) - 48)
  rw [show s + (q - s) = q by omega, hch]
theorem last_add {T : Tk} {r : Nat} {x : Nat × Nat} : tg (addT T r x r) ((addT T r x r).length - 1) = x := by
  rw [addT_self]
  simp only [List.length_append, List.length_singleton, Nat.add_sub_cancel]
  exact tg_new
