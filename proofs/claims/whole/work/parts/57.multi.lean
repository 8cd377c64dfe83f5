/-! ===== arrays of arrays, as a list of makings ===== -/
/-- one making: a new cell, or a slot of one that is there -/
abbrev bO : Type := Cell ⊕ (Nat × Cell × Nat × Value)
def bS (s : State) (o : bO) : State := match o with
  | .inl c => s.pushCell c
  | .inr (a, c, i, v) => s.setCell a (c.setSlot i v)
def bH (H : Heap) (o : bO) : Heap := match o with
  | .inl c => H.push c
  | .inr (a, c, i, v) => H.setIfInBounds a (c.setSlot i v)
def bR (s : State) (os : List bO) : State := os.foldl bS s
def bL (H : Heap) (os : List bO) : Heap := os.foldl bH H
def bc1 (o : bO) : Nat := match o with
  | .inl _ => 1
  | .inr _ => 0
def bn1 (o : bO) : Nat := match o with
  | .inl c => c.slots.size
  | .inr _ => 0
/-- how many cells, how many slots are new -/
def bC (os : List bO) : Nat := (os.map bc1).sum
def bN (os : List bO) : Nat := (os.map bn1).sum
def bk1 (z : Nat) (H : Heap) (o : bO) : Prop := match o with
  | .inl _ => True
  | .inr (a, c, _, _) => z ≤ a ∧ H[a]? = some c
/-- what is written lies at z or behind it, and is told as it stands -/
def bK (z : Nat) : Heap → List bO → Prop
  | _, [] => True
  | H, o :: r => bk1 z H o ∧ bK z (bH H o) r
theorem bR_app (s : State) (a b : List bO) : bR s (a ++ b) = bR (bR s a) b := by unfold bR; rw [List.foldl_append]
theorem bL_app (H : Heap) (a b : List bO) : bL H (a ++ b) = bL (bL H a) b := by unfold bL; rw [List.foldl_append]
theorem bC_app (a b : List bO) : bC (a ++ b) = bC a + bC b := by unfold bC; rw [List.map_append, List.sum_append]
theorem bN_app (a b : List bO) : bN (a ++ b) = bN a + bN b := by unfold bN; rw [List.map_append, List.sum_append]
theorem bC_cons (o : bO) (r : List bO) : bC (o :: r) = bc1 o + bC r := by unfold bC; rw [List.map_cons, List.sum_cons]
theorem bN_cons (o : bO) (r : List bO) : bN (o :: r) = bn1 o + bN r := by unfold bN; rw [List.map_cons, List.sum_cons]
theorem bR_top (f : JFrame) : ∀ (os : List bO) (s : State), bR (s.setTop f) os = (bR s os).setTop f
  | [], _ => rfl
  | o :: r, s => by
    have h : bS (s.setTop f) o = (bS s o).setTop f := by rcases o with c | ⟨a, c, i, v⟩ <;> rfl
    show bR (bS (s.setTop f) o) r = _
    rw [h]
    exact bR_top f r _
theorem bR_vm : ∀ (os : List bO) (s : State), (bR s os).vm = s.vm
  | [], _ => rfl
  | o :: r, s => by
    have h : (bS s o).vm = s.vm := by rcases o with c | ⟨a, c, i, v⟩ <;> rfl
    exact (bR_vm r (bS s o)).trans h
theorem bR_heap : ∀ (os : List bO) (s : State), (bR s os).heap = bL s.heap os
  | [], _ => rfl
  | o :: r, s => by
    have h : (bS s o).heap = bH s.heap o := by rcases o with c | ⟨a, c, i, v⟩ <;> rfl
    have g := bR_heap r (bS s o)
    rw [h] at g
    exact g
theorem bR_used : ∀ (os : List bO) (s : State), (bR s os).slotsUsed = s.slotsUsed + bN os
  | [], _ => rfl
  | o :: r, s => by
    have h : (bS s o).slotsUsed = s.slotsUsed + bn1 o := by rcases o with c | ⟨a, c, i, v⟩ <;> rfl
    have g := bR_used r (bS s o)
    rw [h] at g
    rw [bN_cons, ← Nat.add_assoc]
    exact g
theorem bL_size : ∀ (os : List bO) (H : Heap), (bL H os).size = H.size + bC os
  | [], _ => rfl
  | o :: r, H => by
    have h : (bH H o).size = H.size + bc1 o := by
      rcases o with c | ⟨a, c, i, v⟩
      · exact Array.size_push _
      · exact Array.size_setIfInBounds
    have g := bL_size r (bH H o)
    rw [h] at g
    rw [bC_cons, ← Nat.add_assoc]
    exact g
theorem bK_app {z : Nat} {b : List bO} : ∀ (a : List bO) (H : Heap), bK z H a → bK z (bL H a) b → bK z H (a ++ b)
  | [], _, _, h => h
  | o :: r, H, h1, h2 => ⟨h1.1, bK_app r (bH H o) h1.2 h2⟩
theorem bK_mono {z y : Nat} (hz : z ≤ y) : ∀ (os : List bO) (H : Heap), bK y H os → bK z H os
  | [], _, _ => trivial
  | o :: r, H, h => ⟨by
      rcases o with c | ⟨a, c, i, v⟩
      · trivial
      · exact ⟨Nat.le_trans hz h.1.1, h.1.2⟩, bK_mono hz r (bH H o) h.2⟩
theorem bL_old {z : Nat} : ∀ (os : List bO) (H : Heap), bK z H os → ∀ q : Nat, q < z → q < H.size → (bL H os)[q]? = H[q]?
  | [], _, _, _, _, _ => rfl
  | o :: r, H, h, q, h1, h2 => by
    have e : (bH H o)[q]? = H[q]? ∧ q < (bH H o).size := by
      rcases o with c | ⟨a, c, i, v⟩
      · refine ⟨?_, ?_⟩
        · show (H.push c)[q]? = _
          rw [Array.getElem?_push, if_neg (Nat.ne_of_lt h2)]
        · show q < (H.push c).size
          rw [Array.size_push]; omega
      · have hz : z ≤ a := h.1.1
        refine ⟨?_, ?_⟩
        · show (H.setIfInBounds a _)[q]? = _
          rw [Array.getElem?_setIfInBounds, if_neg (by omega)]
        · show q < (H.setIfInBounds a _).size
          rw [Array.size_setIfInBounds]; exact h2
    exact (bL_old r (bH H o) h.2 q h1 e.2).trans e.1
section
variable {p : Program} {l : Launch} {e : Env} {R : Room} {s : State} {m : MethodId} {args : Array Value} {below : List Frame} {meth : Method} {c : Code} {locs : List Loc}
theorem bR_stand : ∀ (os : List bO) {T : State} {cells slots : Nat}, Stand p l e R s m args below meth c T locs cells slots → bK s.heap.size T.heap os → Stand p l e R s m args below meth c (bR T os) locs (cells + bC os) (slots + bN os)
  | [], _, _, _, X, _ => X
  | .inl k :: r, T, cells, slots, X, h => by
    have Y := bR_stand r (X.pushed k) h.2
    refine Y.more ?_ ?_
    · rw [bC_cons]; show cells + 1 + _ ≤ cells + (1 + _); omega
    · rw [bN_cons]; show slots + k.slots.size + _ ≤ slots + (k.slots.size + _); omega
  | .inr (a, k, i, v) :: r, T, cells, slots, X, h => by
    have X1 := (X.stored h.1.2 i v).dropFresh (fun x hx => by rw [List.mem_singleton.mp hx]; exact h.1.1)
    have Y := bR_stand r X1 h.2
    refine Y.more ?_ ?_
    · rw [bC_cons]; show cells + _ ≤ cells + (0 + _); omega
    · rw [bN_cons]; show slots + _ ≤ slots + (0 + _); omega
end
/-- makings F, laid from the heap's end on: C cells of N slots, of which P then holds -/
def Gd (F : Nat → List bO) (C N : Nat) (P : Nat → Heap → Prop) : Prop :=
  (∀ H : Heap, bK H.size H (F H.size) ∧ P H.size (bL H (F H.size))) ∧ (∀ w, bC (F w) = C ∧ bN (F w) = N) ∧ ∀ (w : Nat) (H H' : Heap), P w H → (∀ q : Nat, w ≤ q → q < w + C → H'[q]? = H[q]?) → P w H'
/-- act makes F -/
def Mk (E : CtlPost) (e : Env) (V : Vm) (act : Sem Addr) (F : Nat → List bO) (C N : Nat) : Prop :=
  ∀ (d : Bool) (acts : List Action) (S : State) (Q : Addr → Pre), S.vm = V → S.heap.size + C ≤ e.platform.maxCells → S.slotsUsed + N ≤ e.platform.maxSlots → (∀ d' acts', Q S.heap.size d' acts' (bR S (F S.heap.size))) → wp act Q E e d acts S
/-- one row -/
def rowF (c : ClassId) (K : Nat) (v : Value) : Nat → List bO := fun _ => [.inl (arrV c K (fun _ => v))]
theorem rowF_good (c : ClassId) (K : Nat) (v : Value) : Gd (rowF c K v) 1 K (fun w H => H[w]? = some (arrV c K (fun _ => v))) := by
  refine ⟨fun H => ⟨⟨trivial, trivial⟩, ?_⟩, fun w => ⟨rfl, ?_⟩, fun w H H' h g => (g w (Nat.le_refl _) (Nat.lt_succ_self _)).trans h⟩
  · show (H.push _)[H.size]? = _
    exact Array.getElem?_push_size
  · show (arrV c K (fun _ => v)).slots.size + 0 = K
    rw [arrV_size]
    rfl
theorem rowF_mk {E : CtlPost} {e : Env} {V : Vm} {c cc : ClassId} {k : Class} {ty : FieldType} {n : Int32} (hk : V.classes[c]? = some k) (hkind : k.kind = .array cc ty) (hn : ¬ n < 0)
    (hl : ¬ n.toNatClampNeg > e.platform.arrayLengthLimit) (hh : ¬ n.toNatClampNeg * componentBytes ty > e.platform.maxHeapBytes) (hdf : fits ty (defaultValue ty) = true) :
    Mk E e V (multianewarray.make c [n]) (rowF c n.toNatClampNeg (defaultValue ty)) 1 n.toNatClampNeg := by
  intro d acts S Q hV hc hs hq
  subst hV
  rw [multianewarray.make]
  simp only [wp_bind', W.ite, hn, if_false, wp_pure', W.theClass, hk, hkind, Option.some.injEq, exists_eq_left']
  refine W.newArray_of hk hkind hl hh (by omega) hs hdf fun acts1 => ?_
  rw [arrV_new]
  exact hq _ _
/-- what the outer array holds when i rows are laid -/
def oF (w C i : Nat) : Nat → Value := fun j => va_rf (if j < i then some (w + 1 + C * j) else none)
theorem oF_0 (w C : Nat) : oF w C 0 = fun _ => Value.null := by
  funext j
  unfold oF
  rw [if_neg (Nat.not_lt_zero _)]
  rfl
theorem oF_up (w C i : Nat) : updV (oF w C i) i (.ref (w + 1 + C * i)) = oF w C (i + 1) := by
  funext j
  unfold updV oF
  by_cases e : j = i
  · subst e; rw [if_pos rfl, if_pos (Nat.lt_succ_self _)]; rfl
  · rw [if_neg e]
    by_cases h : j < i
    · rw [if_pos h, if_pos (by omega)]
    · rw [if_neg h, if_neg (by omega)]
/-- an array of N, the first i of its rows made by F -/
def outF (c : ClassId) (N C : Nat) (F : Nat → List bO) (w : Nat) : Nat → List bO
  | 0 => [.inl (arrV c N (oF w C 0))]
  | i + 1 => outF c N C F w i ++ (F (w + 1 + C * i) ++ [.inr (w, arrV c N (oF w C i), i, .ref (w + 1 + C * i))])
theorem outF_facts {F : Nat → List bO} {C N1 : Nat} {P : Nat → Heap → Prop} (hG : Gd F C N1 P) (c : ClassId) (N : Nat) (H : Heap) : ∀ i : Nat,
    bK H.size H (outF c N C F H.size i) ∧ (bL H (outF c N C F H.size i))[H.size]? = some (arrV c N (oF H.size C i)) ∧ (bL H (outF c N C F H.size i)).size = H.size + 1 + C * i ∧ ∀ j, j < i → P (H.size + 1 + C * j) (bL H (outF c N C F H.size i)) := by
  intro i
  induction i with
  | zero =>
    refine ⟨⟨trivial, trivial⟩, ?_, ?_, fun j hj => absurd hj (Nat.not_lt_zero _)⟩
    · show (H.push _)[H.size]? = _
      exact Array.getElem?_push_size
    · show (H.push _).size = _
      rw [Array.size_push, Nat.mul_zero, Nat.add_zero]
  | succ i ih =>
    obtain ⟨k, hz, sz, hp⟩ := ih
    obtain ⟨hG1, hG2, hG3⟩ := hG
    have hstep : outF c N C F H.size (i + 1) = outF c N C F H.size i ++ (F (H.size + 1 + C * i) ++ [.inr (H.size, arrV c N (oF H.size C i), i, .ref (H.size + 1 + C * i))]) := rfl
    rw [hstep, bL_app, bL_app]
    generalize hH1 : bL H (outF c N C F H.size i) = H1 at hz sz hp
    obtain ⟨g1, g2⟩ := hG1 H1
    rw [sz] at g1 g2
    have old := bL_old (F (H.size + 1 + C * i)) H1 g1
    have sz2 := bL_size (F (H.size + 1 + C * i)) H1
    rw [(hG2 _).1, sz] at sz2
    rw [sz] at old
    generalize hH2 : bL H1 (F (H.size + 1 + C * i)) = H2 at g2 old sz2
    have hz2 : H2[H.size]? = some (arrV c N (oF H.size C i)) := (old _ (by omega) (by omega)).trans hz
    have oth : ∀ q : Nat, q ≠ H.size → (bL H2 [.inr (H.size, arrV c N (oF H.size C i), i, .ref (H.size + 1 + C * i))])[q]? = H2[q]? := fun q hq => by
      show (H2.setIfInBounds H.size _)[q]? = _
      rw [Array.getElem?_setIfInBounds, if_neg (fun h => hq h.symm)]
    refine ⟨bK_app _ _ k ?_, ?_, ?_, fun j hj => ?_⟩
    · rw [hH1]
      refine bK_app _ _ (bK_mono (by omega) _ _ g1) ?_
      rw [hH2]
      exact ⟨⟨Nat.le_refl _, hz2⟩, trivial⟩
    · show (H2.setIfInBounds H.size ((arrV c N (oF H.size C i)).setSlot i (.ref (H.size + 1 + C * i))))[H.size]? = _
      rw [Array.getElem?_setIfInBounds, if_pos rfl, if_pos (by omega), arrV_store, oF_up]
    · show (H2.setIfInBounds H.size _).size = _
      rw [Array.size_setIfInBounds, sz2, Nat.mul_succ]
      omega
    · by_cases e : j = i
      · subst e
        exact hG3 _ _ _ g2 (fun q h1 h2 => oth q (by omega))
      · have hji : j < i := by omega
        have hmul : C * j + C ≤ C * i := by
          rw [← Nat.mul_succ]
          exact Nat.mul_le_mul_left _ hji
        exact hG3 _ _ _ (hp j hji) (fun q h1 h2 => (oth q (by omega)).trans (old q (by omega) (by omega)))
theorem outF_count {F : Nat → List bO} {C N1 : Nat} {P : Nat → Heap → Prop} (hG : Gd F C N1 P) (c : ClassId) (N w : Nat) : ∀ i : Nat, bC (outF c N C F w i) = 1 + C * i ∧ bN (outF c N C F w i) = N + N1 * i := by
  intro i
  induction i with
  | zero =>
    refine ⟨?_, ?_⟩
    · show 1 + 0 = _
      rw [Nat.mul_zero]
    · show (arrV c N (oF w C 0)).slots.size + 0 = _
      rw [arrV_size, Nat.mul_zero]
  | succ i ih =>
    obtain ⟨g1, g2⟩ := hG.2.1 (w + 1 + C * i)
    refine ⟨?_, ?_⟩
    · show bC (_ ++ (_ ++ [_])) = _
      rw [bC_app, bC_app, ih.1, g1, Nat.mul_succ]
      show 1 + C * i + (C + 0) = _
      omega
    · show bN (_ ++ (_ ++ [_])) = _
      rw [bN_app, bN_app, ih.2, g2, Nat.mul_succ]
      show N + N1 * i + (N1 + 0) = _
      omega
theorem outF_good {F : Nat → List bO} {C N1 : Nat} {P : Nat → Heap → Prop} (hG : Gd F C N1 P) (c : ClassId) (N : Nat) :
    Gd (fun w => outF c N C F w N) (1 + C * N) (N + N1 * N) (fun w H => H[w]? = some (arrV c N (oF w C N)) ∧ ∀ j, j < N → P (w + 1 + C * j) H) := by
  refine ⟨fun H => ?_, fun w => outF_count hG c N w N, fun w H H' h g => ⟨(g w (Nat.le_refl _) (by omega)).trans h.1, fun j hj => ?_⟩⟩
  · obtain ⟨h1, h2, -, h4⟩ := outF_facts hG c N H N
    exact ⟨h1, h2, h4⟩
  · have hmul : C * j + C ≤ C * N := by
      rw [← Nat.mul_succ]
      exact Nat.mul_le_mul_left _ hj
    exact hG.2.2 _ _ _ (h.2 j hj) (fun q h1 h2 => g q (by omega) (by omega))
theorem outF_mk {E : CtlPost} {e : Env} {V : Vm} {c comp : ClassId} {k : Class} {t : FieldType} {n m : Int32} {r : List Int32} {F : Nat → List bO} {C N1 : Nat} {P : Nat → Heap → Prop} (hG : Gd F C N1 P) (hM : Mk E e V (multianewarray.make comp (m :: r)) F C N1)
    (hr : (m :: r).find? (· < 0) = none) (hk : V.classes[c]? = some k) (hkind : k.kind = .array comp (.array t)) (hn : ¬ n < 0)
    (hl : ¬ n.toNatClampNeg > e.platform.arrayLengthLimit) (hh : ¬ n.toNatClampNeg * componentBytes (.array t) > e.platform.maxHeapBytes) :
    Mk E e V (multianewarray.make c (n :: m :: r)) (fun w => outF c n.toNatClampNeg C F w n.toNatClampNeg) (1 + C * n.toNatClampNeg) (n.toNatClampNeg + N1 * n.toNatClampNeg) := by
  intro d acts S Q hV hc hs hq
  subst hV
  rw [multianewarray.make]
  simp only [wp_bind', W.ite, hn, if_false, wp_pure', W.theClass, hk, hkind, Option.some.injEq, exists_eq_left']
  generalize hN : n.toNatClampNeg = N at hl hh hc hs hq ⊢
  refine W.newArray_of hk hkind hl hh (by omega) (by omega) rfl fun acts1 => ?_
  simp only [hr]
  rw [ite_self, wp_bind', Std.Legacy.Range.forIn_eq_forIn_range']
  have hsz : ([:N] : Std.Legacy.Range).size = N := by simp [Std.Legacy.Range.size]
  rw [hsz]
  show wp (forIn (List.range' 0 N 1) PUnit.unit _) _ E e d acts1 _
  have h0 : S.pushCell { cls := c, slots := Array.replicate N .null } = bR S (outF c N C F S.heap.size 0) := by
    show S.pushCell _ = S.pushCell _
    rw [arrV_new, oF_0]
  refine wp_forIn_inv (fun rest s' => ∃ i, i ≤ N ∧ rest = List.range' i (N - i) ∧ s' = bR S (outF c N C F S.heap.size i)) _ _ ⟨0, Nat.zero_le _, rfl, h0⟩ ?_ ?_
  · rintro x rest s' d' acts' Q' ⟨i, hi, hl', rfl⟩ hnext
    have hlt : i < N := by
      rcases Nat.lt_or_ge i N with h | h
      · exact h
      · rw [Nat.sub_eq_zero_of_le h] at hl'; cases hl'
    rw [show N - i = (N - (i + 1)) + 1 by omega, List.range'_succ] at hl'
    obtain ⟨hx, hrest⟩ := List.cons.inj hl'
    subst hx
    obtain ⟨k1, k2, k3, -⟩ := outF_facts hG c N S.heap x
    obtain ⟨b1, b2⟩ := outF_count hG c N S.heap.size x
    have hmC : C * x + C ≤ C * N := by
      rw [← Nat.mul_succ]
      exact Nat.mul_le_mul_left _ hlt
    have hmN : N1 * x + N1 ≤ N1 * N := by
      rw [← Nat.mul_succ]
      exact Nat.mul_le_mul_left _ hlt
    have hw : (bR S (outF c N C F S.heap.size x)).heap.size = S.heap.size + 1 + C * x := by rw [bR_heap]; exact k3
    simp only [wp_bind']
    refine hM _ _ _ _ (bR_vm _ _) (by rw [hw]; omega) (by rw [bR_used, b2]; omega) (fun d1 acts2 => ?_)
    rw [hw]
    have g1 := (hG.1 (bL S.heap (outF c N C F S.heap.size x))).1
    rw [k3] at g1
    have hold := (bL_old _ _ g1 S.heap.size (by omega) (by rw [k3]; omega)).trans k2
    simp only [wp_bind', W.writeLoc, wp_pure']
    refine ⟨arrV c N (oF S.heap.size C x), ?_, (by intro q; cases q), (by rw [arrV_size]; exact hlt), ?_, hnext _ _ _ ⟨x + 1, hlt, hrest, ?_⟩⟩
    · rw [bR_heap, bR_heap]; exact hold
    · show State.fitsSlot _ c .none _ _ = true
      simp [State.fitsSlot, State.slotType?, bR_vm, hk, hkind, fits]
    · show _ = bR S (_ ++ (_ ++ [_]))
      rw [bR_app, bR_app]
      rfl
  · rintro s' d' acts' ⟨i, hi, hl', rfl⟩
    have hiN : i = N := by
      rcases Nat.lt_or_ge i N with h | h
      · rw [show N - i = (N - (i + 1)) + 1 by omega, List.range'_succ] at hl'; cases hl'
      · omega
    subst hiN
    simp only [wp_pure']
    exact hq _ _
/-- the numbers, taken from the stack -/
theorem mapM_ints {E : CtlPost} {e : Env} {f : Value → Sem Int32} (hf : ∀ n, f (.int n) = Pure.pure n) : ∀ (ns : List Int32) {Q : List Int32 → Pre} {d : Bool} {acts : List Action} {s : State}, Q ns d acts s → wp ((ns.map Value.int).mapM f) Q E e d acts s
  | [], Q, d, acts, s, h => by
    rw [List.map_nil, List.mapM_nil]
    simp only [wp_pure']
    exact h
  | n :: r, Q, d, acts, s, h => by
    rw [List.map_cons, List.mapM_cons, hf]
    simp only [wp_bind', wp_pure']
    exact mapM_ints hf r (Q := fun xs d a s => Q (n :: xs) d a s) h
section
variable {p : Program} {l : Launch} {e : Env} {R : Room} {s : State} {m : MethodId} {args : Array Value} {below : List Frame} {meth : Method} {c : Code} {T : State} {locs : List Loc} {cells slots : Nat}
/-- the instruction, where the making of its array is known -/
theorem makes (X : Stand p l e R s m args below meth c T locs cells slots) (hexec : p.tables.exec = Jvm.exec) {own C : String} {index D : Nat} {c0 : ClassId} (hown : s.vm.findClass own = some m.cls) (hclink : (Cond.classLink own index C).before args s = true) (hC : s.vm.findClass C = some c0)
    {g : JFrame} (hg : g.method = m) (hdg : decode c.code g.pc = .ok (.multianewarray index D, 4)) {ns : List Int32} {rest : List Value} (hD : ns.length = D) (hD0 : D ≠ 0) (hstack : g.stack = (ns.map Value.int).reverse ++ rest)
    {F : Nat → List bO} {A B : Nat} {P : Nat → Heap → Prop} (hG : Gd F A B P) (hM : ∀ (E : CtlPost) (V : Vm), s.WarmedH V → Mk E e V (multianewarray.make c0 ns) F A B) (hA : cells + A ≤ R.cells) (hB : slots + B ≤ R.slots) :
    ∃ T1 : State, T1.heap = bL T.heap (F T.heap.size) ∧ Stand p l e R s m args below meth c T1 locs (cells + A) (slots + B) ∧
      ∀ target, Steps p.tables e below (T1.setTop { g with pc := g.pc + 4, stack := .ref T.heap.size :: rest }) target → Steps p.tables e below (T.setTop g) target := by
  subst hg
  have hpl : e.platform.magicAccessors = ({} : Platform).magicAccessors := by rw [X.admits.platform]
  obtain ⟨cl, hfc, hcl⟩ := Cond.classLink_spec hown hclink e.platform hpl
  cases hC.symm.trans hfc
  obtain ⟨hg1, hwarm, -⟩ := State.classEntry (e := e) X.warmed hcl
  generalize T.vm.noted g.method.cls index (.cls c0) = V at hg1 hwarm
  have X1 := X.noted hwarm
  obtain ⟨hr1, hr2⟩ := X.roomAbove hA hB
  have Y := bR_stand (F T.heap.size) X1 (bK_mono X.heapGrown _ _ (hG.1 T.heap).1)
  rw [(hG.2.1 _).1, (hG.2.1 _).2] at Y
  refine ⟨bR (T.setVm V) (F T.heap.size), bR_heap _ _, Y, fun target hrest => ?_⟩
  jvm_step X.here [hexec, hdg]
  simp only [multianewarray.sem, wp_bind', W.resolveClassAt_links (State.method?_setTop g X.here.top) hg1]
  rw [W.popN, if_neg hD0]
  refine ⟨g, State.topJava?_setTop' (s := T.setVm V) g X.here.top, ns.map Value.int, rest, by rw [List.length_map, hD], hstack, ?_⟩
  rw [wp_bind']
  refine mapM_ints ?_ ns ?_
  · intro n; rfl
  have eS : ((T.setTop g).setVm V).setTop { g with stack := rest } = (T.setVm V).setTop { g with stack := rest } := by
    show ((T.setVm V).setTop g).setTop _ = _
    rw [State.setTop_setTop]
  rw [eS]
  rw [wp_bind']
  refine hM _ V hwarm _ _ ((T.setVm V).setTop { g with stack := rest }) _ rfl hr1 hr2 (fun d1 acts1 => ?_)
  show wp _ _ _ _ d1 acts1 (bR ((T.setVm V).setTop { g with stack := rest }) (F T.heap.size))
  rw [bR_top]
  simp only [wp_bind', W.mark, W.pushRef, State.topJava?_setTop' _ Y.here.top, Option.some.injEq, exists_eq_left', State.setTop_setTop, State.heap_setTop]
  intro acts
  simp [jvm, Y.here.top]
  exact hrest
end
/-- rows, all 0 -/
def Rws (G : gG) (a n k j : Nat) (H : Heap) : Prop := ∀ i, i < n → gI G (a + 1 + i) k j (fun _ => nI 0) H
theorem Rws.fr {G : gG} {a n k j lo hi : Nat} {H H1 : Heap} (h : Rws G a n k j H) (f : gF lo hi H H1) (hd : hi ≤ a + 1 ∨ a + 1 + n ≤ lo ∨ hi ≤ lo) : Rws G a n k j H1 := by
  intro i hi2
  rcases hd with hd | hd | hd
  · exact (h i hi2).fr f (by omega)
  · exact (h i hi2).fr f (by omega)
  · exact (h i hi2).fr (f.widen (lo := 0) (hi := 0) (by omega)) (by omega)
section NM
variable {p : Program} {l : Launch} {e : Env} {R : Room} {s : State} {m : MethodId} {args : Array Value} {below : List Frame} {meth : Method} {c : Code} {H : Heap} {locs : List Loc} {cells slots : Nat} {Q : State → Prop}
variable {cc : ByteArray} {pc : Nat} {ls : Array Slot} {rest : List Value} {H0 : Heap} {G : gG} {lo hi : Nat}
/-- how much has been made, at the most -/
theorem x_size {g : JFrame} (h0 : s.heap = H0) (k : H.size ≤ H0.size + cells → W p l e R s m args below meth c H locs cells slots Q g) : W p l e R s m args below meth c H locs cells slots Q g := by
  intro T hT X
  have h := X.heapSize
  rw [hT, h0] at h
  exact k h T hT X
theorem x_inner {k2 j : Nat} {ty : FieldType} {a : Nat} {H1 : Heap} (ht2 : (k2 = 0 ∧ ty = .char) ∨ (k2 = 1 ∧ ty = .int)) (h : H1[a]? = some (arrV (G.2.1 k2) j (fun _ => defaultValue ty))) : gI G a k2 j (fun _ => nI 0) H1 := by
  show H1[a]? = some (vp_cell _ _)
  rw [h]
  rcases ht2 with ⟨rfl, rfl⟩ | ⟨rfl, rfl⟩ <;> rfl
/-- the limits of one array -/
theorem x_lim {T : State} (X : Stand p l e R s m args below meth c T locs cells slots) {n b : Nat} (hn : n ≤ 100) (hb : b ≤ 8) : ¬ n > e.platform.arrayLengthLimit ∧ ¬ n * b > e.platform.maxHeapBytes := by
  have h := Nat.mul_le_mul hn hb
  refine ⟨?_, ?_⟩
  · rw [Launch.admits_arrayLengthLimit X.admits]; omega
  · rw [Launch.admits_maxHeapBytes X.admits]; omega
/-- an array of arrays, with its rows -/
theorem x_multi2 {k1 k2 n j index : Nat} {ty : FieldType} {own C : String} (hx : p.tables.exec = Jvm.exec) (hb : c.code = cc) (hown : s.vm.findClass own = some m.cls) (hclink : (Cond.classLink own index C).before args s = true) (hC : "[" ++ (FieldType.array ty).toString = C) (hover : gAr ty s) (harr : (Cond.arrayClass ty).before args s = true) (ht1 : gTy k1 = .array ty) (ht2 : (k2 = 0 ∧ ty = .char) ∨ (k2 = 1 ∧ ty = .int)) (h7 : k1 < 7) (hK : gK G s) (hS : va_S (gA lo hi H0.size) H0 H locs)
    (hn : n ≤ 100) (hj : j ≤ 100) (hcells : cells + (1 + n) ≤ R.cells) (hslots : slots + (n + n * j) ≤ R.slots) (hdg : decode cc pc = .ok (.multianewarray index 2, 4))
    (kk : ∀ (z : Nat) (H1 : Heap), H.size = z → H0.size ≤ z → gQ G z k1 n (fun i => if i < n then some (z + 1 + i) else none) H1 → Rws G z n k2 j H1 → gF 0 0 H H1 → H1.size = z + 1 + n → va_S (gA lo hi H0.size) H0 H1 locs →
      W p l e R s m args below meth c H1 locs (cells + (1 + n)) (slots + (n + n * j)) Q (F0 m (pc + 4) ls (.ref z :: rest))) : W p l e R s m args below meth c H locs cells slots Q (F0 m pc ls (.int (nI j) :: .int (nI n) :: rest)) := by
  intro T hT X
  subst hT; subst hb; subst hC
  have en : (nI n).toNatClampNeg = n := nI_clamp (by omega)
  have ej : (nI j).toNatClampNeg = j := nI_clamp (by omega)
  have cb : componentBytes ty ≤ 8 := by rcases ht2 with ⟨-, rfl⟩ | ⟨-, rfl⟩ <;> decide
  have hd1 : fits ty (defaultValue ty) = true := by rcases ht2 with ⟨-, rfl⟩ | ⟨-, rfl⟩ <;> rfl
  obtain ⟨comp, c0, q0, e1, -, e2, e3, e4⟩ := arrayOverA_spec hover
  obtain ⟨cr, q1, cc1, r1, r2, r3⟩ := Cond.arrayClass_spec harr
  have hcomp : cr = comp := Option.some.inj (r1.symm.trans e1)
  subst hcomp
  have hc0 : c0 = G.2.1 k1 := by
    have g := (hK.2 k1 _ (gTys_at h7)).2
    rw [ht1] at g
    exact Option.some.inj (e4.symm.trans g)
  have hcr : cr = G.2.1 k2 := by
    rcases ht2 with ⟨rfl, rfl⟩ | ⟨rfl, rfl⟩
    · exact Option.some.inj (r1.symm.trans (hK.2 0 _ (gTys_at (by decide))).2)
    · exact Option.some.inj (r1.symm.trans (hK.2 1 _ (gTys_at (by decide))).2)
  subst hc0; subst hcr
  have gR := rowF_good (G.2.1 k2) j (defaultValue ty)
  have gO := outF_good gR (G.2.1 k1) n
  obtain ⟨l1, l2⟩ := x_lim X hn (b := componentBytes (.array ty)) (by show 4 ≤ 8; omega)
  obtain ⟨l3, l4⟩ := x_lim X hj cb
  obtain ⟨T1, hH, X1, st⟩ := makes X hx hown hclink e4 (g := F0 m pc ls (.int (nI j) :: .int (nI n) :: rest)) rfl hdg (ns := [nI n, nI j]) rfl (by decide) rfl gO (fun E V hW => by
    have hal : s.vm.Alike V := hW.alike
    obtain ⟨u0, v0, w0⟩ := hal.2.2 _ _ e2
    obtain ⟨u1, v1, w1⟩ := hal.2.2 _ _ r2
    have M1 : Mk E e V (multianewarray.make (G.2.1 k2) [nI j]) (rowF (G.2.1 k2) j (defaultValue ty)) 1 j := by
      have M := rowF_mk (E := E) (e := e) (n := nI j) v1 (by rw [w1]; exact r3) (nI_pos (by omega)) (by rw [ej]; exact l3) (by rw [ej]; exact l4) hd1
      rw [ej] at M
      exact M
    have M2 := outF_mk (n := nI n) gR M1 (by simp [nI_pos (show j < 2147483648 by omega)]) v0 (by rw [w0]; exact e3) (nI_pos (by omega)) (by rw [en]; exact l1) (by rw [en]; exact l2)
    rw [en] at M2
    exact M2) (by omega) (by rw [Nat.mul_comm j n]; omega)
  have z1 : T1.heap.size = T.heap.size + 1 + n := by rw [hH, bL_size, (gO.2.1 _).1]; omega
  obtain ⟨fk, fp, fr⟩ := gO.1 T.heap
  have fo := fun (q : Nat) (hq : q < T.heap.size) => bL_old _ _ fk q hq hq
  rw [← hH] at fp fr fo
  have X2 := X1.more (cells' := cells + (1 + n)) (slots' := slots + (n + n * j)) (by omega) (by rw [Nat.mul_comm j n]; omega)
  obtain ⟨t, a1, b1⟩ := kk T.heap.size T1.heap rfl hS.1 (by
      show _ = some (vp_cell _ _)
      rw [vp_cell_q, fp]
      unfold oF
      simp only [Nat.one_mul]) (fun i hi => x_inner ht2 (by have h := fr i hi; rw [Nat.one_mul] at h; exact h)) ⟨by omega, fun q hq _ => fo q hq⟩ z1 ⟨Nat.le_trans hS.1 (by omega), fun x h1 h2 => (fo x (Nat.lt_of_lt_of_le h1 hS.1)).trans (hS.2.1 x h1 h2), hS.2.2⟩ _ rfl X2
  exact ⟨t, st t a1, b1⟩
/-- two arrays of arrays, with all their rows -/
theorem x_multi3 {n j index : Nat} {own C : String} (hx : p.tables.exec = Jvm.exec) (hb : c.code = cc) (hown : s.vm.findClass own = some m.cls) (hclink : (Cond.classLink own index C).before args s = true) (hC : "[" ++ (FieldType.array (.array .int)).toString = C) (hover0 : gAr (.array .int) s) (hover : gAr .int s) (harr : (Cond.arrayClass .int).before args s = true) (hK : gK G s) (hS : va_S (gA lo hi H0.size) H0 H locs)
    (hn : n ≤ 100) (hj : j ≤ 100) (hcells : cells + (3 + 2 * n) ≤ R.cells) (hslots : slots + (2 + 2 * (n + n * j)) ≤ R.slots) (hdg : decode cc pc = .ok (.multianewarray index 3, 4))
    (kk : ∀ (z : Nat) (H1 : Heap), H.size = z → H0.size ≤ z → gQ G z 5 2 (fun i => if i < 2 then some (z + 1 + (1 + n) * i) else none) H1 → (∀ i, i < 2 → gQ G (z + 1 + (1 + n) * i) 3 n (fun r => if r < n then some (z + 1 + (1 + n) * i + 1 + r) else none) H1) → (∀ i r, i < 2 → r < n → gI G (z + 1 + (1 + n) * i + 1 + r) 1 j (fun _ => nI 0) H1) → gF 0 0 H H1 → H1.size = z + 3 + 2 * n → va_S (gA lo hi H0.size) H0 H1 locs →
      W p l e R s m args below meth c H1 locs (cells + (3 + 2 * n)) (slots + (2 + 2 * (n + n * j))) Q (F0 m (pc + 4) ls (.ref z :: rest))) : W p l e R s m args below meth c H locs cells slots Q (F0 m pc ls (.int (nI j) :: .int (nI n) :: .int (nI 2) :: rest)) := by
  intro T hT X
  subst hT; subst hb; subst hC
  have en : (nI n).toNatClampNeg = n := nI_clamp (by omega)
  have ej : (nI j).toNatClampNeg = j := nI_clamp (by omega)
  have e2' : (nI 2).toNatClampNeg = 2 := nI_clamp (by decide)
  obtain ⟨compA, cA, qA, a1, -, a2, a3, a4⟩ := arrayOverA_spec hover0
  obtain ⟨compB, cB, qB, b1, -, b2, b3, b4⟩ := arrayOverA_spec hover
  obtain ⟨cr, q1, cc1, r1, r2, r3⟩ := Cond.arrayClass_spec harr
  have hcomp : cr = compB := Option.some.inj (r1.symm.trans b1)
  subst hcomp
  have hab : compA = cB := Option.some.inj (a1.symm.trans b4)
  subst hab
  have hA : cA = G.2.1 5 := Option.some.inj (a4.symm.trans (hK.2 5 _ (gTys_at (by decide))).2)
  have hB : compA = G.2.1 3 := Option.some.inj (b4.symm.trans (hK.2 3 _ (gTys_at (by decide))).2)
  have hR : cr = G.2.1 1 := Option.some.inj (r1.symm.trans (hK.2 1 _ (gTys_at (by decide))).2)
  subst hA; subst hB; subst hR
  have gR := rowF_good (G.2.1 1) j (defaultValue .int)
  have gM := outF_good gR (G.2.1 3) n
  have gO := outF_good gM (G.2.1 5) 2
  obtain ⟨l1, l2⟩ := x_lim X hn (b := componentBytes (.array .int)) (by show 4 ≤ 8; omega)
  obtain ⟨l3, l4⟩ := x_lim X hj (b := componentBytes .int) (by show 4 ≤ 8; omega)
  obtain ⟨l5, l6⟩ := x_lim X (n := 2) (by omega) (b := componentBytes (.array (.array .int))) (by show 4 ≤ 8; omega)
  obtain ⟨T1, hH, X1, st⟩ := makes X hx hown hclink a4 (g := F0 m pc ls (.int (nI j) :: .int (nI n) :: .int (nI 2) :: rest)) rfl hdg (ns := [nI 2, nI n, nI j]) rfl (by decide) rfl gO (fun E V hW => by
    have hal : s.vm.Alike V := hW.alike
    obtain ⟨u0, v0, w0⟩ := hal.2.2 _ _ a2
    obtain ⟨u1, v1, w1⟩ := hal.2.2 _ _ b2
    obtain ⟨u2, v2, w2⟩ := hal.2.2 _ _ r2
    have M1 : Mk E e V (multianewarray.make (G.2.1 1) [nI j]) (rowF (G.2.1 1) j (defaultValue .int)) 1 j := by
      have M := rowF_mk (E := E) (e := e) (n := nI j) v2 (by rw [w2]; exact r3) (nI_pos (by omega)) (by rw [ej]; exact l3) (by rw [ej]; exact l4) rfl
      rw [ej] at M
      exact M
    have M2 := outF_mk (n := nI n) gR M1 (by simp [nI_pos (show j < 2147483648 by omega)]) v1 (by rw [w1]; exact b3) (nI_pos (by omega)) (by rw [en]; exact l1) (by rw [en]; exact l2)
    rw [en] at M2
    have M3 := outF_mk (n := nI 2) gM M2 (by simp [nI_pos (show j < 2147483648 by omega), nI_pos (show n < 2147483648 by omega)]) v0 (by rw [w0]; exact a3) (nI_pos (by decide)) (by rw [e2']; exact l5) (by rw [e2']; exact l6)
    rw [e2'] at M3
    exact M3) (by omega) (by rw [Nat.mul_comm j n]; omega)
  have z1 : T1.heap.size = T.heap.size + 3 + 2 * n := by rw [hH, bL_size, (gO.2.1 _).1]; omega
  obtain ⟨fk, fp, fr⟩ := gO.1 T.heap
  have fo := fun (q : Nat) (hq : q < T.heap.size) => bL_old _ _ fk q hq hq
  rw [← hH] at fp fr fo
  have X2 := X1.more (cells' := cells + (3 + 2 * n)) (slots' := slots + (2 + 2 * (n + n * j))) (by omega) (by rw [Nat.mul_comm j n]; omega)
  obtain ⟨t, u1, u2⟩ := kk T.heap.size T1.heap rfl hS.1 (by
      show _ = some (vp_cell _ _)
      rw [vp_cell_q, fp]
      unfold oF
      simp only [Nat.one_mul]) (fun i hi => by
      show _ = some (vp_cell _ _)
      have h := (fr i hi).1
      rw [Nat.one_mul] at h
      rw [vp_cell_q, h]
      unfold oF
      simp only [Nat.one_mul]) (fun i r hi hr => x_inner (Or.inr ⟨rfl, rfl⟩) (by have h := (fr i hi).2 r hr; rw [Nat.one_mul, Nat.one_mul] at h; exact h)) ⟨by omega, fun q hq _ => fo q hq⟩ z1 ⟨Nat.le_trans hS.1 (by omega), fun x h1 h2 => (fo x (Nat.lt_of_lt_of_le h1 hS.1)).trans (hS.2.1 x h1 h2), hS.2.2⟩ _ rfl X2
  exact ⟨t, st t u1, u2⟩
end NM
