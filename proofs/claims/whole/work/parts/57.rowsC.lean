/-! ===== what the constructors make ===== -/
/-- three dimensions, the outermost of two -/
def fill3 (s : State) (c0 c1 c2 : ClassId) (M K : Nat) (dv : Value) : State :=
  (Multi.fill ((Multi.fill (s.pushCell (Multi.outerC c0 2 s.heap.size 0)) c1 c2 M K dv M).setCell s.heap.size ((Multi.outerC c0 2 s.heap.size 0).setSlot 0 (.ref (s.heap.size + 1)))) c1 c2 M K dv M).setCell s.heap.size (((Multi.outerC c0 2 s.heap.size 0).setSlot 0 (.ref (s.heap.size + 1))).setSlot 1 (.ref (s.heap.size + 2 + M)))
section
variable {E : CtlPost} {e : Env} {d : Bool} {acts : List Action} {s : State}
theorem wp_make3 {c0 c1 c2 cc : ClassId} {k0 k1 k2 : Class} {t0 t1 type : FieldType} {n m k : Int32} (hk0 : s.vm.classes[c0]? = some k0) (hkind0 : k0.kind = .array c1 t0) (href0 : t0.isReference = true)
    (hk1 : s.vm.classes[c1]? = some k1) (hkind1 : k1.kind = .array c2 t1) (href1 : t1.isReference = true) (hk2 : s.vm.classes[c2]? = some k2) (hkind2 : k2.kind = .array cc type) (hn : ¬ n < 0) (hm : ¬ m < 0) (hk : ¬ k < 0) (hn2 : n.toNatClampNeg = 2)
    (hl0 : ¬ 2 > e.platform.arrayLengthLimit) (hh0 : ¬ 2 * componentBytes t0 > e.platform.maxHeapBytes)
    (hl1 : ¬ m.toNatClampNeg > e.platform.arrayLengthLimit) (hh1 : ¬ m.toNatClampNeg * componentBytes t1 > e.platform.maxHeapBytes)
    (hl2 : ¬ k.toNatClampNeg > e.platform.arrayLengthLimit) (hh2 : ¬ k.toNatClampNeg * componentBytes type > e.platform.maxHeapBytes)
    (hdf : fits type (defaultValue type) = true) (hdd : (defaultValue type).isDefault = true)
    (hc : s.heap.size + 3 + 2 * m.toNatClampNeg ≤ e.platform.maxCells) (hs : s.slotsUsed + 2 + 2 * (m.toNatClampNeg + m.toNatClampNeg * k.toNatClampNeg) ≤ e.platform.maxSlots)
    {Q : Addr → Pre} (hq : ∀ d' acts', Q s.heap.size d' acts' (fill3 s c0 c1 c2 m.toNatClampNeg k.toNatClampNeg (defaultValue type))) :
    wp (multianewarray.make c0 [n, m, k]) Q E e d acts s := by
  have hfind : ([m, k].find? (· < 0)) = none := by simp [hm, hk]
  rw [multianewarray.make]
  simp only [wp_bind', W.ite, hn, if_false, wp_pure', W.theClass, hk0, hkind0, Option.some.injEq, exists_eq_left']
  rw [hn2]
  refine Multi.wp_newArray hk0 hkind0 hl0 hh0 (Multi.refFits href0 _ (Or.inl rfl)) rfl (by omega) (by omega) ?_
  simp only [hfind]
  rw [ite_self, wp_bind', Std.Legacy.Range.forIn_eq_forIn_range']
  have hsz : ([:2] : Std.Legacy.Range).size = 2 := by simp [Std.Legacy.Range.size]
  rw [hsz]
  show wp (forIn (List.range' 0 2 1) PUnit.unit _) _ E e d acts _
  rw [show List.range' 0 2 1 = [0, 1] from rfl]
  obtain ⟨o1, o2, o3⟩ := Multi.outerC_facts c0 2 s.heap.size 0
  simp only [List.forIn_cons, List.forIn_nil, wp_bind']
  have hmul := Nat.zero_le (m.toNatClampNeg * k.toNatClampNeg)
  have p1 : (s.pushCell (Multi.outerC c0 2 s.heap.size 0)).heap.size = s.heap.size + 1 := by simp [State.pushCell]
  have p2 : (s.pushCell (Multi.outerC c0 2 s.heap.size 0)).slotsUsed = s.slotsUsed + 2 := by
    show s.slotsUsed + (Multi.outerC c0 2 s.heap.size 0).slots.size = _
    rw [o3]
  have p3 : (s.pushCell (Multi.outerC c0 2 s.heap.size 0)).heap[s.heap.size]? = some (Multi.outerC c0 2 s.heap.size 0) := by simp [State.pushCell]
  show wp _ _ _ _ _ _ (s.pushCell (Multi.outerC c0 2 s.heap.size 0))
  generalize hs0 : s.pushCell (Multi.outerC c0 2 s.heap.size 0) = s0 at p1 p2 p3 ⊢
  have v0 : s0.vm = s.vm := by rw [← hs0]; rfl
  refine Multi.wp_make2 (s := s0) (by rw [v0]; exact hk1) hkind1 href1 (by rw [v0]; exact hk2) hkind2 hm hk hl1 hh1 hl2 hh2 hdf hdd (by rw [p1]; omega) (by rw [p2]; omega) (fun d1 acts1 => ?_)
  obtain ⟨f1, f2, f3, f4⟩ := Multi.fill_facts s0 c1 c2 m.toNatClampNeg k.toNatClampNeg (defaultValue type) m.toNatClampNeg
  have fo := Multi.fill_old s0 c1 c2 m.toNatClampNeg k.toNatClampNeg (defaultValue type) (a := s.heap.size) (by rw [p1]; exact Nat.lt_succ_self _) m.toNatClampNeg
  simp only [wp_bind', W.writeLoc, wp_pure']
  refine ⟨Multi.outerC c0 2 s.heap.size 0, fo.trans p3, by rw [o2]; simp, by rw [o3]; decide, ?_, ?_⟩
  · rw [o1, o2]
    simp [State.fitsSlot, State.slotType?, f3, v0, hk0, hkind0, Multi.refFits href0 _ (Or.inr ⟨_, rfl⟩)]
  rw [p1]
  have g1 : ((Multi.fill s0 c1 c2 m.toNatClampNeg k.toNatClampNeg (defaultValue type) m.toNatClampNeg).setCell s.heap.size ((Multi.outerC c0 2 s.heap.size 0).setSlot 0 (.ref (s.heap.size + 1)))).heap.size = s.heap.size + 2 + m.toNatClampNeg := by rw [size_setCell, f1, p1]
  have g2 : ((Multi.fill s0 c1 c2 m.toNatClampNeg k.toNatClampNeg (defaultValue type) m.toNatClampNeg).setCell s.heap.size ((Multi.outerC c0 2 s.heap.size 0).setSlot 0 (.ref (s.heap.size + 1)))).slotsUsed = s.slotsUsed + 2 + m.toNatClampNeg + m.toNatClampNeg * k.toNatClampNeg := by
    show (Multi.fill s0 c1 c2 m.toNatClampNeg k.toNatClampNeg (defaultValue type) m.toNatClampNeg).slotsUsed = _
    rw [f4, p2]
  have g3 : ((Multi.fill s0 c1 c2 m.toNatClampNeg k.toNatClampNeg (defaultValue type) m.toNatClampNeg).setCell s.heap.size ((Multi.outerC c0 2 s.heap.size 0).setSlot 0 (.ref (s.heap.size + 1)))).heap[s.heap.size]? = some ((Multi.outerC c0 2 s.heap.size 0).setSlot 0 (.ref (s.heap.size + 1))) := heapAt_setCell_self _ (by rw [f1, p1]; exact Nat.lt_of_lt_of_le (Nat.lt_succ_self _) (Nat.le_trans (Nat.le_succ _) (Nat.le_add_right _ _)))
  have g4 : ((Multi.fill s0 c1 c2 m.toNatClampNeg k.toNatClampNeg (defaultValue type) m.toNatClampNeg).setCell s.heap.size ((Multi.outerC c0 2 s.heap.size 0).setSlot 0 (.ref (s.heap.size + 1)))).vm = s.vm := by
    show (Multi.fill s0 c1 c2 m.toNatClampNeg k.toNatClampNeg (defaultValue type) m.toNatClampNeg).vm = _
    rw [f3, v0]
  unfold fill3 at hq
  rw [hs0] at hq
  generalize hs1 : (Multi.fill s0 c1 c2 m.toNatClampNeg k.toNatClampNeg (defaultValue type) m.toNatClampNeg).setCell s.heap.size ((Multi.outerC c0 2 s.heap.size 0).setSlot 0 (.ref (s.heap.size + 1))) = s1 at g1 g2 g3 g4 hq ⊢
  refine Multi.wp_make2 (s := s1) (by rw [g4]; exact hk1) hkind1 href1 (by rw [g4]; exact hk2) hkind2 hm hk hl1 hh1 hl2 hh2 hdf hdd (by rw [g1]; omega) (by rw [g2]; omega) (fun d2 acts2 => ?_)
  obtain ⟨q1, q2, q3, q4⟩ := Multi.fill_facts s1 c1 c2 m.toNatClampNeg k.toNatClampNeg (defaultValue type) m.toNatClampNeg
  have qo := Multi.fill_old s1 c1 c2 m.toNatClampNeg k.toNatClampNeg (defaultValue type) (a := s.heap.size) (by rw [g1]; exact Nat.lt_of_lt_of_le (Nat.lt_succ_self _) (Nat.le_trans (Nat.le_succ _) (Nat.le_add_right _ _))) m.toNatClampNeg
  simp only [wp_bind', W.writeLoc, wp_pure']
  have o4 : ((Multi.outerC c0 2 s.heap.size 0).setSlot 0 (.ref (s.heap.size + 1))).slots.size = 2 := by simp [Cell.setSlot, o3]
  refine ⟨(Multi.outerC c0 2 s.heap.size 0).setSlot 0 (.ref (s.heap.size + 1)), qo.trans g3, by show (Multi.outerC c0 2 s.heap.size 0).vm ≠ _; rw [o2]; simp, by rw [o4]; decide, ?_, ?_⟩
  · show State.fitsSlot _ (Multi.outerC c0 2 s.heap.size 0).cls (Multi.outerC c0 2 s.heap.size 0).vm _ _ = true
    rw [o1, o2]
    simp [State.fitsSlot, State.slotType?, q3, g4, hk0, hkind0, Multi.refFits href0 _ (Or.inr ⟨_, rfl⟩)]
  · rw [g1]
    exact hq _ _
end
theorem fill3_facts (s : State) (c0 c1 c2 : ClassId) (M K : Nat) (dv : Value) : (fill3 s c0 c1 c2 M K dv).heap.size = s.heap.size + 3 + 2 * M ∧ (fill3 s c0 c1 c2 M K dv).heap[s.heap.size]? = some (((Multi.outerC c0 2 s.heap.size 0).setSlot 0 (.ref (s.heap.size + 1))).setSlot 1 (.ref (s.heap.size + 2 + M))) ∧
    (∀ i, i < 2 → (fill3 s c0 c1 c2 M K dv).heap[s.heap.size + 1 + (1 + M) * i]? = some (Multi.outerC c1 M (s.heap.size + 1 + (1 + M) * i) M)) ∧
    (∀ i r, i < 2 → r < M → (fill3 s c0 c1 c2 M K dv).heap[s.heap.size + 1 + (1 + M) * i + 1 + r]? = some (Multi.innerC c2 K dv)) ∧ ∀ a, a < s.heap.size → (fill3 s c0 c1 c2 M K dv).heap[a]? = s.heap[a]? := by
  generalize hz : s.heap.size = z
  have e0 : (s.pushCell (Multi.outerC c0 2 z 0)).heap.size = z + 1 := by rw [← hz]; simp [State.pushCell]
  have o0 : ∀ a : Nat, a < z → (s.pushCell (Multi.outerC c0 2 z 0)).heap[a]? = s.heap[a]? := fun a ha => by
    show (s.heap.push _)[a]? = _
    rw [Array.getElem?_push, if_neg (by rw [hz]; exact Nat.ne_of_lt ha)]
  unfold fill3
  rw [hz]
  generalize s.pushCell (Multi.outerC c0 2 z 0) = s0 at e0 o0
  obtain ⟨f1, f2, f3, f4⟩ := Multi.fill_facts s0 c1 c2 M K dv M
  have fo := fun (a : Addr) (ha : a < s0.heap.size) => Multi.fill_old s0 c1 c2 M K dv (a := a) ha M
  have fi := fun (j : Nat) (hj : j < M) => Multi.fill_inner s0 c1 c2 M K dv M j hj
  rw [e0] at f1 f2 fi fo
  generalize Multi.fill s0 c1 c2 M K dv M = s1 at f1 f2 fi fo
  generalize hC1 : (Multi.outerC c0 2 z 0).setSlot 0 (.ref (z + 1)) = C1
  have e2 : (s1.setCell z C1).heap.size = z + 2 + M := by rw [size_setCell, f1]
  have o2 : ∀ a : Nat, a ≠ z → (s1.setCell z C1).heap[a]? = s1.heap[a]? := fun a ha => heapAt_setCell_ne _ (Ne.symm ha)
  generalize s1.setCell z C1 = s2 at e2 o2
  obtain ⟨g1, g2, g3, g4⟩ := Multi.fill_facts s2 c1 c2 M K dv M
  have go := fun (a : Addr) (ha : a < s2.heap.size) => Multi.fill_old s2 c1 c2 M K dv (a := a) ha M
  have gi := fun (j : Nat) (hj : j < M) => Multi.fill_inner s2 c1 c2 M K dv M j hj
  rw [e2] at g1 g2 gi go
  generalize Multi.fill s2 c1 c2 M K dv M = s3 at g1 g2 gi go
  have o3 : ∀ a : Nat, a ≠ z → (s3.setCell z (C1.setSlot 1 (.ref (z + 2 + M)))).heap[a]? = s3.heap[a]? := fun a ha => heapAt_setCell_ne _ (Ne.symm ha)
  have goN : ∀ a : Nat, a < z + 2 + M → s3.heap[a]? = s2.heap[a]? := go
  have foN : ∀ a : Nat, a < z + 1 → s1.heap[a]? = s0.heap[a]? := fo
  have hzlt : z < s3.heap.size := by rw [g1]; show (z : Nat) < _; omega
  refine ⟨by rw [size_setCell, g1]; omega, heapAt_setCell_self _ hzlt, fun i hi => ?_, fun i r hi hr => ?_, fun a ha => ?_⟩
  · rcases (show i = 0 ∨ i = 1 by omega) with rfl | rfl
    · rw [Nat.mul_zero, Nat.add_zero, o3 _ (by omega), goN _ (by omega), o2 _ (by omega)]
      exact f2
    · rw [Nat.mul_one, show z + 1 + (1 + M) = z + 2 + M by omega, o3 _ (by omega)]
      exact g2
  · rcases (show i = 0 ∨ i = 1 by omega) with rfl | rfl
    · rw [Nat.mul_zero, Nat.add_zero, o3 _ (by omega), goN _ (by omega), o2 _ (by omega)]
      exact fi r hr
    · rw [Nat.mul_one, show z + 1 + (1 + M) + 1 + r = z + 2 + M + 1 + r by omega, o3 _ (by omega)]
      exact gi r hr
  · rw [o3 _ (by omega), goN _ (by omega), o2 _ (by omega), foN _ (by omega)]
    exact o0 a ha
theorem fill3_setTop (s : State) (f : JFrame) (c0 c1 c2 : ClassId) (M K : Nat) (dv : Value) : fill3 (s.setTop f) c0 c1 c2 M K dv = (fill3 s c0 c1 c2 M K dv).setTop f := by
  unfold fill3
  have e1 : ((s.setTop f).pushCell (Multi.outerC c0 2 (s.setTop f).heap.size 0)) = (s.pushCell (Multi.outerC c0 2 s.heap.size 0)).setTop f := rfl
  rw [e1, Multi.fill_setTop]
  have e2 : ((Multi.fill (s.pushCell (Multi.outerC c0 2 s.heap.size 0)) c1 c2 M K dv M).setTop f).setCell (s.setTop f).heap.size ((Multi.outerC c0 2 (s.setTop f).heap.size 0).setSlot 0 (.ref ((s.setTop f).heap.size + 1))) = ((Multi.fill (s.pushCell (Multi.outerC c0 2 s.heap.size 0)) c1 c2 M K dv M).setCell s.heap.size ((Multi.outerC c0 2 s.heap.size 0).setSlot 0 (.ref (s.heap.size + 1)))).setTop f := rfl
  rw [e2, Multi.fill_setTop]
  rfl
section
variable {p : Program} {l : Launch} {e : Env} {R : Room} {s : State} {m : MethodId} {args : Array Value} {below : List Frame} {meth : Method} {c : Code} {T : State} {locs : List Loc} {cells slots : Nat}
theorem filled3 (X : Stand p l e R s m args below meth c T locs cells slots) (c0 c1 c2 : ClassId) (M K : Nat) (dv : Value) : Stand p l e R s m args below meth c (fill3 T c0 c1 c2 M K dv) locs (cells + (3 + 2 * M)) (slots + (2 + 2 * (M + M * K))) := by
  have hg := X.heapGrown
  have X0 := X.pushed (Multi.outerC c0 2 T.heap.size 0)
  rw [(Multi.outerC_facts c0 2 T.heap.size 0).2.2] at X0
  have X1 := X0.filled c1 c2 M K dv M
  have z0 : (T.pushCell (Multi.outerC c0 2 T.heap.size 0)).heap.size = T.heap.size + 1 := by simp [State.pushCell]
  have hg0 : s.heap.size ≤ (T.pushCell (Multi.outerC c0 2 T.heap.size 0)).heap.size := by rw [z0]; exact Nat.le_trans hg (Nat.le_succ _)
  have X1 := X1.dropFresh (fun x hx => by obtain ⟨j, -, rfl⟩ := List.mem_map.mp hx; exact hg0)
  have h0 : (T.pushCell (Multi.outerC c0 2 T.heap.size 0)).heap[T.heap.size]? = some (Multi.outerC c0 2 T.heap.size 0) := by simp [State.pushCell]
  have fo := Multi.fill_old (T.pushCell (Multi.outerC c0 2 T.heap.size 0)) c1 c2 M K dv (a := T.heap.size) (by rw [z0]; exact Nat.lt_succ_self _) M
  have X2 := X1.stored (fo.trans h0) 0 (.ref (T.heap.size + 1))
  have X2 := X2.dropFresh (fun x hx => by rw [List.mem_singleton.mp hx]; exact hg)
  obtain ⟨f1, -, -, -⟩ := Multi.fill_facts (T.pushCell (Multi.outerC c0 2 T.heap.size 0)) c1 c2 M K dv M
  have z2 : ((Multi.fill (T.pushCell (Multi.outerC c0 2 T.heap.size 0)) c1 c2 M K dv M).setCell T.heap.size ((Multi.outerC c0 2 T.heap.size 0).setSlot 0 (.ref (T.heap.size + 1)))).heap.size = T.heap.size + 2 + M := by rw [size_setCell, f1, z0]
  have h2 := heapAt_setCell_self (s := Multi.fill (T.pushCell (Multi.outerC c0 2 T.heap.size 0)) c1 c2 M K dv M) ((Multi.outerC c0 2 T.heap.size 0).setSlot 0 (.ref (T.heap.size + 1))) (a := T.heap.size) (by rw [f1, z0]; exact Nat.lt_of_lt_of_le (Nat.lt_succ_self _) (Nat.le_trans (Nat.le_succ _) (Nat.le_add_right _ _)))
  have X3 := X2.filled c1 c2 M K dv M
  have X3 := X3.dropFresh (fun x hx => by obtain ⟨j, -, rfl⟩ := List.mem_map.mp hx; show s.heap.size ≤ _; rw [z2]; exact Nat.le_trans hg (Nat.le_trans (Nat.le_add_right _ 2) (Nat.le_add_right _ _)))
  have fo3 := Multi.fill_old ((Multi.fill (T.pushCell (Multi.outerC c0 2 T.heap.size 0)) c1 c2 M K dv M).setCell T.heap.size ((Multi.outerC c0 2 T.heap.size 0).setSlot 0 (.ref (T.heap.size + 1)))) c1 c2 M K dv (a := T.heap.size) (by rw [z2]; exact Nat.lt_of_lt_of_le (Nat.lt_succ_self _) (Nat.le_trans (Nat.le_succ _) (Nat.le_add_right _ _))) M
  have X4 := X3.stored (fo3.trans h2) 1 (.ref (T.heap.size + 2 + M))
  have X4 := X4.dropFresh (fun x hx => by rw [List.mem_singleton.mp hx]; exact hg)
  exact X4.more (by omega) (by rw [show 2 * (M + M * K) = M + M * K + (M + M * K) from Nat.two_mul _]; omega)
theorem multi3 (X : Stand p l e R s m args below meth c T locs cells slots) (hexec : p.tables.exec = Jvm.exec) {own : String} {index : Nat} {ty : FieldType}
    (hown : s.vm.findClass own = some m.cls) (hclink : (Cond.classLink own index ("[" ++ (FieldType.array (.array ty)).toString)).before args s = true)
    (hover0 : (Cond.arrayOver (.array (.array ty))).before args s = true) (hover1 : (Cond.arrayOver (.array ty)).before args s = true) (harr : (Cond.arrayClass ty).before args s = true)
    {g : JFrame} (hg : g.method = m) (hdg : decode c.code g.pc = .ok (.multianewarray index 3, 4)) {n k j : Int32} {rest : List Value} (hstack : g.stack = .int j :: .int k :: .int n :: rest)
    (hn2 : n.toNatClampNeg = 2) (hn : ¬ n < 0) (hk : ¬ k < 0) (hj : ¬ j < 0) (hb1 : k.toNatClampNeg * 4 ≤ 536870912) (hb2 : j.toNatClampNeg * componentBytes ty ≤ 536870912) (hb3 : j.toNatClampNeg ≤ 536870912)
    (hdf : fits ty (defaultValue ty) = true) (hdd : (defaultValue ty).isDefault = true)
    (hcells : cells + (3 + 2 * k.toNatClampNeg) ≤ R.cells) (hslots : slots + (2 + 2 * (k.toNatClampNeg + k.toNatClampNeg * j.toNatClampNeg)) ≤ R.slots) :
    ∃ (vm₁ : Vm) (c0 c1 c2 : ClassId), s.WarmedH vm₁ ∧ s.vm.findClass ("[" ++ (FieldType.array (.array ty)).toString) = some c0 ∧ s.vm.findClass (FieldType.array (.array ty)).toString = some c1 ∧ s.vm.findClass (FieldType.array ty).toString = some c2 ∧
      Stand p l e R s m args below meth c (fill3 (T.setVm vm₁) c0 c1 c2 k.toNatClampNeg j.toNatClampNeg (defaultValue ty)) locs (cells + (3 + 2 * k.toNatClampNeg)) (slots + (2 + 2 * (k.toNatClampNeg + k.toNatClampNeg * j.toNatClampNeg))) ∧
      ∀ target, Steps p.tables e below ((fill3 (T.setVm vm₁) c0 c1 c2 k.toNatClampNeg j.toNatClampNeg (defaultValue ty)).setTop { g with pc := g.pc + 4, stack := .ref T.heap.size :: rest }) target →
        Steps p.tables e below (T.setTop g) target := by
  subst hg
  have hpl : e.platform.magicAccessors = ({} : Platform).magicAccessors := by rw [X.admits.platform]
  obtain ⟨c1, c0, k0, hc1, hk0, hkind0, hname0⟩ := Cond.arrayOver_specA hover0
  obtain ⟨c2, c1', k1, hc2, hk1, hkind1, hname1⟩ := Cond.arrayOver_specA hover1
  obtain ⟨c2', k2, cc, hc2', hk2, hkind2⟩ := Cond.arrayClass_spec harr
  have e1 : c1' = c1 := Option.some.inj (hname1.symm.trans hc1)
  subst e1
  have e2 : c2' = c2 := Option.some.inj (hc2'.symm.trans hc2)
  subst e2
  obtain ⟨cl, hfc0, hcl⟩ := Cond.classLink_spec hown hclink e.platform hpl
  cases hname0.symm.trans hfc0
  obtain ⟨hg₁, hwarm₁, hready₁⟩ := State.classEntry (e := e) X.warmed hcl
  generalize T.vm.noted g.method.cls index (.cls c0) = vm₁ at hg₁ hwarm₁ hready₁
  have hal : s.vm.Alike vm₁ := hwarm₁.alike
  obtain ⟨k0₁, hk0₁, he0⟩ := hal.2.2 _ _ hk0
  obtain ⟨k1₁, hk1₁, he1⟩ := hal.2.2 _ _ hk1
  obtain ⟨k2₁, hk2₁, he2⟩ := hal.2.2 _ _ hk2
  have hkind0₁ : k0₁.kind = .array c1' (.array (.array ty)) := by rw [he0]; exact hkind0
  have hkind1₁ : k1₁.kind = .array c2' (.array ty) := by rw [he1]; exact hkind1
  have hkind2₁ : k2₁.kind = .array cc ty := by rw [he2]; exact hkind2
  have X₁ := X.noted hwarm₁
  obtain ⟨hr1, hr2⟩ := X.roomAbove hcells hslots
  refine ⟨vm₁, c0, c1', c2', hwarm₁, hname0, hc1, hc2, filled3 X₁ _ _ _ _ _ _, fun target hrest => ?_⟩
  have hl0 : ¬ 2 > e.platform.arrayLengthLimit := by rw [Launch.admits_arrayLengthLimit X.admits]; omega
  have hh0 : ¬ 2 * componentBytes (.array (.array ty)) > e.platform.maxHeapBytes := by
    rw [Launch.admits_maxHeapBytes X.admits]; show ¬ 2 * 4 > 536870912; omega
  have hl1 : ¬ k.toNatClampNeg > e.platform.arrayLengthLimit := by rw [Launch.admits_arrayLengthLimit X.admits]; omega
  have hh1 : ¬ k.toNatClampNeg * componentBytes (.array ty) > e.platform.maxHeapBytes := by
    rw [Launch.admits_maxHeapBytes X.admits]; show ¬ k.toNatClampNeg * 4 > 536870912; omega
  have hl2 : ¬ j.toNatClampNeg > e.platform.arrayLengthLimit := by rw [Launch.admits_arrayLengthLimit X.admits]; omega
  have hh2 : ¬ j.toNatClampNeg * componentBytes ty > e.platform.maxHeapBytes := by rw [Launch.admits_maxHeapBytes X.admits]; omega
  jvm_step X.here [hexec, hdg]
  simp only [multianewarray.sem, wp_bind', W.resolveClassAt_links (State.method?_setTop g X.here.top) hg₁]
  rw [W.popN, if_neg (by decide)]
  refine ⟨g, State.topJava?_setTop' (s := T.setVm vm₁) g X.here.top, [.int n, .int k, .int j], rest, rfl, hstack, ?_⟩
  simp only [List.mapM_cons, List.mapM_nil, wp_bind', wp_pure']
  refine wp_make3 (k0 := k0₁) (k1 := k1₁) (k2 := k2₁) (c1 := c1') (c2 := c2') (cc := cc) (t0 := .array (.array ty)) (t1 := .array ty) (type := ty) hk0₁ hkind0₁ rfl hk1₁ hkind1₁ rfl hk2₁ hkind2₁ hn hk hj hn2 hl0 hh0 hl1 hh1 hl2 hh2 hdf hdd (by show T.heap.size + 3 + _ ≤ _; omega) (by show T.slotsUsed + 2 + _ ≤ _; omega) (fun d' acts' => ?_)
  have XF := filled3 X₁ c0 c1' c2' k.toNatClampNeg j.toNatClampNeg (defaultValue ty)
  have eS : ((T.setTop g).setVm vm₁).setTop { g with stack := rest } = (T.setVm vm₁).setTop { g with stack := rest } := by
    show ((T.setVm vm₁).setTop g).setTop _ = _
    rw [State.setTop_setTop]
  rw [eS, fill3_setTop]
  simp only [wp_bind', W.mark, W.pushRef, State.topJava?_setTop' _ XF.here.top, Option.some.injEq, exists_eq_left', State.setTop_setTop, State.heap_setTop]
  intro acts
  simp [jvm, XF.here.top]
  exact hrest
end

theorem outer_arr (c0 : ClassId) (N h0 : Nat) : ∀ i, Multi.outerC c0 N h0 i = arrV c0 N (fun j => va_rf (if j < i then some (h0 + 1 + j) else none)) := by
  intro i
  induction i with
  | zero =>
    show ({ cls := c0, slots := Array.replicate N .null, vm := .none } : Cell) = _
    rw [arrV_new]
    congr 1
  | succ i ih =>
    show (Multi.outerC c0 N h0 i).setSlot i (.ref (h0 + 1 + i)) = _
    rw [ih, arrV_store]
    congr 1
    funext j
    unfold updV
    by_cases e : j = i
    · subst e; rw [if_pos rfl, if_pos (Nat.lt_succ_self _)]; rfl
    · rw [if_neg e]
      show va_rf (if j < i then some (h0 + 1 + j) else none) = va_rf (if j < i + 1 then some (h0 + 1 + j) else none)
      by_cases h : j < i
      · rw [if_pos h, if_pos (by omega)]
      · rw [if_neg h, if_neg (by omega)]
theorem inner_arr (c0 : ClassId) (K : Nat) (dv : Value) : Multi.innerC c0 K dv = arrV c0 K (fun _ => dv) := arrV_new c0 K dv
/-- rows, all 0 -/
def Rws (G : gG) (a n k j : Nat) (H : Heap) : Prop := ∀ i, i < n → gI G (a + 1 + i) k j (fun _ => nI 0) H
theorem Rws.fr {G : gG} {a n k j lo hi : Nat} {H H1 : Heap} (h : Rws G a n k j H) (f : gF lo hi H H1) (hd : hi ≤ a + 1 ∨ a + 1 + n ≤ lo ∨ hi ≤ lo) : Rws G a n k j H1 := by
  intro i hi2
  rcases hd with hd | hd | hd
  · exact (h i hi2).fr f (by omega)
  · exact (h i hi2).fr f (by omega)
  · exact (h i hi2).fr (f.widen (lo := 0) (hi := 0) (by omega)) (by omega)
section NM
variable {p : Program} {l : Launch} {e : Env} {R : Room} {s : State} {m : MethodId} {args : Array Value} {below : List Frame} {meth : Method} {c : Code} {H : Heap} {locs : List Loc} {cells slots : Nat} {Q : State → Prop}
variable {cc : ByteArray} {pc : Nat} {ls : Array Slot} {rest : List Value} {H0 : Heap} {G : gG} {lo hi : Nat}
/-- how much has been made, at the most -/
theorem x_size {g : JFrame} (h0 : s.heap = H0) (k : H.size ≤ H0.size + cells → W p l e R s m args below meth c H locs cells slots Q g) : W p l e R s m args below meth c H locs cells slots Q g := by
  intro T hT X
  have h := X.heapSize
  rw [hT, h0] at h
  exact k h T hT X
theorem x_inner {k2 j : Nat} {ty : FieldType} {a : Nat} {H1 : Heap} (ht2 : (k2 = 0 ∧ ty = .char) ∨ (k2 = 1 ∧ ty = .int)) (h : H1[a]? = some (Multi.innerC (G.2.1 k2) j (defaultValue ty))) : gI G a k2 j (fun _ => nI 0) H1 := by
  show H1[a]? = some (vp_cell _ _)
  rw [h, inner_arr]
  rcases ht2 with ⟨rfl, rfl⟩ | ⟨rfl, rfl⟩ <;> rfl
/-- an array of arrays, with its rows -/
theorem x_multi2 {k1 k2 n j index : Nat} {ty : FieldType} {own C : String} (hx : p.tables.exec = Jvm.exec) (hb : c.code = cc) (hown : s.vm.findClass own = some m.cls) (hclink : (Cond.classLink own index C).before args s = true) (hC : "[" ++ (FieldType.array ty).toString = C) (hover : gAr ty s) (harr : (Cond.arrayClass ty).before args s = true) (ht1 : gTy k1 = .array ty) (ht2 : (k2 = 0 ∧ ty = .char) ∨ (k2 = 1 ∧ ty = .int)) (h7 : k1 < 7) (hK : gK G s) (hS : va_S (gA lo hi H0.size) H0 H locs)
    (hn : n ≤ 100) (hj : j ≤ 100) (hcells : cells + (1 + n) ≤ R.cells) (hslots : slots + (n + n * j) ≤ R.slots) (hdg : decode cc pc = .ok (.multianewarray index 2, 4))
    (kk : ∀ (z : Nat) (H1 : Heap), H.size = z → H0.size ≤ z → gQ G z k1 n (fun i => if i < n then some (z + 1 + i) else none) H1 → Rws G z n k2 j H1 → gF 0 0 H H1 → H1.size = z + 1 + n → va_S (gA lo hi H0.size) H0 H1 locs →
      W p l e R s m args below meth c H1 locs (cells + (1 + n)) (slots + (n + n * j)) Q (F0 m (pc + 4) ls (.ref z :: rest))) : W p l e R s m args below meth c H locs cells slots Q (F0 m pc ls (.int (nI j) :: .int (nI n) :: rest)) := by
  intro T hT X
  subst hT; subst hb; subst hC
  have en : (nI n).toNatClampNeg = n := nI_clamp (by omega)
  have ej : (nI j).toNatClampNeg = j := nI_clamp (by omega)
  have cb : componentBytes ty ≤ 8 := by rcases ht2 with ⟨-, rfl⟩ | ⟨-, rfl⟩ <;> decide
  have hd1 : fits ty (defaultValue ty) = true := by rcases ht2 with ⟨-, rfl⟩ | ⟨-, rfl⟩ <;> rfl
  have hd2 : (defaultValue ty).isDefault = true := by rcases ht2 with ⟨-, rfl⟩ | ⟨-, rfl⟩ <;> rfl
  obtain ⟨vm1, cA, comp, hW, hfA, hfC, hO, hI, X1, st⟩ := X.multianewarray2F hx hown hclink hover harr (g := F0 m pc ls (.int (nI j) :: .int (nI n) :: rest)) rfl hdg rfl (nI_pos (by omega)) (nI_pos (by omega)) (by rw [en]; omega) (by rw [ej]; exact Nat.le_trans (Nat.mul_le_mul hj cb) (by decide)) (by rw [ej]; omega) hd1 hd2 (by rw [en]; exact hcells) (by rw [en, ej]; exact hslots)
  rw [en, ej] at X1 st
  obtain ⟨f1, f2, f3, f4⟩ := Multi.fill_facts (T.setVm vm1) cA comp n j (defaultValue ty) n
  have fo := fun (a : Addr) (ha : a < T.heap.size) => Multi.fill_old (T.setVm vm1) cA comp n j (defaultValue ty) (a := a) ha n
  have fi := fun (i : Nat) (hi : i < n) => Multi.fill_inner (T.setVm vm1) cA comp n j (defaultValue ty) n i hi
  have c1 : cA = G.2.1 k1 := by
    have g := (hK.2 k1 _ (gTys_at h7)).2
    rw [ht1] at g
    exact Option.some.inj (hfA.symm.trans g)
  have c2 : comp = G.2.1 k2 := by
    rcases ht2 with ⟨rfl, rfl⟩ | ⟨rfl, rfl⟩
    · exact Option.some.inj (hfC.symm.trans (hK.2 0 _ (gTys_at (by decide))).2)
    · exact Option.some.inj (hfC.symm.trans (hK.2 1 _ (gTys_at (by decide))).2)
  subst c1; subst c2
  have X2 := X1.more (cells' := cells + (1 + n)) (slots' := slots + (n + n * j)) (by omega) (by omega)
  have hsz : (T.setVm vm1).heap.size = T.heap.size := rfl
  rw [hsz] at f1 f2 fi
  obtain ⟨t, a1, b1⟩ := kk T.heap.size (Multi.fill (T.setVm vm1) (G.2.1 k1) (G.2.1 k2) n j (defaultValue ty) n).heap rfl hS.1 (by
      show _ = some (vp_cell _ _)
      rw [vp_cell_q, f2, outer_arr]) (fun i hi => x_inner ht2 (fi i hi)) ⟨by rw [f1]; omega, fun q hq _ => fo q hq⟩ f1 ⟨Nat.le_trans hS.1 (by rw [f1]; omega), fun x h1 h2 => (fo x (Nat.lt_of_lt_of_le h1 hS.1)).trans (hS.2.1 x h1 h2), hS.2.2⟩ _ rfl X2
  exact ⟨t, st t a1, b1⟩
/-- two arrays of arrays, with all their rows -/
theorem x_multi3 {n j index : Nat} {own C : String} (hx : p.tables.exec = Jvm.exec) (hb : c.code = cc) (hown : s.vm.findClass own = some m.cls) (hclink : (Cond.classLink own index C).before args s = true) (hC : "[" ++ (FieldType.array (.array .int)).toString = C) (hover0 : gAr (.array .int) s) (hover : gAr .int s) (harr : (Cond.arrayClass .int).before args s = true) (hK : gK G s) (hS : va_S (gA lo hi H0.size) H0 H locs)
    (hn : n ≤ 100) (hj : j ≤ 100) (hcells : cells + (3 + 2 * n) ≤ R.cells) (hslots : slots + (2 + 2 * (n + n * j)) ≤ R.slots) (hdg : decode cc pc = .ok (.multianewarray index 3, 4))
    (kk : ∀ (z : Nat) (H1 : Heap), H.size = z → H0.size ≤ z → gQ G z 5 2 (fun i => if i < 2 then some (z + 1 + (1 + n) * i) else none) H1 → (∀ i, i < 2 → gQ G (z + 1 + (1 + n) * i) 3 n (fun r => if r < n then some (z + 1 + (1 + n) * i + 1 + r) else none) H1) → (∀ i r, i < 2 → r < n → gI G (z + 1 + (1 + n) * i + 1 + r) 1 j (fun _ => nI 0) H1) → gF 0 0 H H1 → H1.size = z + 3 + 2 * n → va_S (gA lo hi H0.size) H0 H1 locs →
      W p l e R s m args below meth c H1 locs (cells + (3 + 2 * n)) (slots + (2 + 2 * (n + n * j))) Q (F0 m (pc + 4) ls (.ref z :: rest))) : W p l e R s m args below meth c H locs cells slots Q (F0 m pc ls (.int (nI j) :: .int (nI n) :: .int (nI 2) :: rest)) := by
  intro T hT X
  subst hT; subst hb; subst hC
  have en : (nI n).toNatClampNeg = n := nI_clamp (by omega)
  have ej : (nI j).toNatClampNeg = j := nI_clamp (by omega)
  obtain ⟨vm1, c0, c1, c2, hW, hf0, hf1, hf2, X1, st⟩ := multi3 X hx hown hclink hover0 hover harr (g := F0 m pc ls (.int (nI j) :: .int (nI n) :: .int (nI 2) :: rest)) rfl hdg rfl (nI_clamp (by decide)) (nI_pos (by decide)) (nI_pos (by omega)) (nI_pos (by omega)) (by rw [en]; omega) (by rw [ej]; show j * 4 ≤ _; omega) (by rw [ej]; omega) rfl rfl (by rw [en]; exact hcells) (by rw [en, ej]; exact hslots)
  rw [en, ej] at X1 st
  obtain ⟨f1, f2, f3, f4, fo⟩ := fill3_facts (T.setVm vm1) c0 c1 c2 n j (defaultValue .int)
  have hsz : (T.setVm vm1).heap.size = T.heap.size := rfl
  rw [hsz] at f1 f2 f3 f4 fo
  have e0 : c0 = G.2.1 5 := Option.some.inj (hf0.symm.trans (hK.2 5 _ (gTys_at (by decide))).2)
  have e1 : c1 = G.2.1 3 := Option.some.inj (hf1.symm.trans (hK.2 3 _ (gTys_at (by decide))).2)
  have e2 : c2 = G.2.1 1 := Option.some.inj (hf2.symm.trans (hK.2 1 _ (gTys_at (by decide))).2)
  subst e0; subst e1; subst e2
  obtain ⟨t, a1, b1⟩ := kk T.heap.size (fill3 (T.setVm vm1) (G.2.1 5) (G.2.1 3) (G.2.1 1) n j (defaultValue .int)).heap rfl hS.1 (by
      show _ = some (vp_cell _ _)
      rw [vp_cell_q, f2, outer_arr, arrV_store, arrV_store]
      congr 2
      funext i
      unfold updV
      by_cases h1 : i = 1
      · subst h1; rw [if_pos rfl, if_pos (by decide), show T.heap.size + 1 + (1 + n) * 1 = T.heap.size + 2 + n by omega]; rfl
      · rw [if_neg h1]
        by_cases h0 : i = 0
        · subst h0; rw [if_pos rfl, if_pos (by decide)]; rfl
        · rw [if_neg h0]
          show va_rf (if i < 0 then _ else none) = va_rf (if i < 2 then _ else none)
          rw [if_neg (by omega), if_neg (by omega)]) (fun i hi => by
      show _ = some (vp_cell _ _)
      rw [vp_cell_q, f3 i hi, outer_arr]) (fun i r hi hr => x_inner (Or.inr ⟨rfl, rfl⟩) (f4 i r hi hr)) ⟨by rw [f1]; omega, fun q hq _ => fo q hq⟩ f1 ⟨Nat.le_trans hS.1 (by rw [f1]; omega), fun x h1 h2 => (fo x (Nat.lt_of_lt_of_le h1 hS.1)).trans (hS.2.1 x h1 h2), hS.2.2⟩ _ rfl X1
  exact ⟨t, st t a1, b1⟩
/-- a new array of objects of a class, without any -/
theorem x_newQO {k n index : Nat} {own C : String} (hx : p.tables.exec = Jvm.exec) (hb : c.code = cc) (hown : s.vm.findClass own = some m.cls) (hclink : (Cond.classLink own index C).before args s = true) (hover : va_AO C s) (hty : gTy k = .object C) (hk7 : k < 7) (hK : gK G s) (hS : va_S (gA lo hi H0.size) H0 H locs)
    (hn : n ≤ 100) (hcells : cells + 1 ≤ R.cells) (hslots : slots + n ≤ R.slots) (hdg : decode cc pc = .ok (.anewarray index, 3))
    (kk : ∀ (z : Nat) (H1 : Heap), H.size = z → H0.size ≤ z → gQ G z k n (fun _ => none) H1 → gF 0 0 H H1 → H1.size = z + 1 → va_S (gA lo hi H0.size) H0 H1 locs → W p l e R s m args below meth c H1 locs (cells + 1) (slots + n) Q (F0 m (pc + 3) ls (.ref z :: rest))) : W p l e R s m args below meth c H locs cells slots Q (F0 m pc ls (.int (nI n) :: rest)) := by
  have e : (nI n).toNatClampNeg = n := nI_clamp (by omega)
  refine W.anew (C := C) hx hb hown hclink (va_AO.use hover) rfl hdg rfl (nI_pos (by omega)) (by rw [e]; omega) hcells (by rw [e]; exact hslots) fun cA kA comp f1 f2 f3 f4 => ?_
  rw [e]
  have g1 := (hK.2 k _ (gTys_at hk7)).2
  rw [hty] at g1
  obtain ⟨kA', comp', q1, q2, q3, q4⟩ := g1
  have hc : cA = G.2.1 k := Option.some.inj (f1.symm.trans q4)
  generalize hH1 : H.push ({ cls := cA, slots := Array.replicate n .null, vm := .none } : Cell) = H1
  have z1 : H1.size = H.size + 1 := by rw [← hH1, Array.size_push]
  have e1 : H1[H.size]? = some (arrV cA n (fun _ => .null)) := by rw [← hH1, Array.getElem?_push_size, ← arrV_new]
  have o1 : ∀ q : Nat, q < H.size → H1[q]? = H[q]? := fun q hq => by rw [← hH1, Array.getElem?_push, if_neg (Nat.ne_of_lt hq)]
  subst hc
  refine kk H.size H1 rfl hS.1 ?_ ⟨by omega, fun q hq _ => o1 q hq⟩ z1 ⟨Nat.le_trans hS.1 (by omega), fun x h1 h2 => (o1 x (Nat.lt_of_lt_of_le h1 hS.1)).trans (hS.2.1 x h1 h2), hS.2.2⟩
  show H1[H.size]? = some (vp_cell _ _)
  rw [vp_cell_q]
  exact e1
/-- a new object, its fields as they begin -/
theorem x_newO {ci N index : Nat} {own C : String} {T : u_T} {Ts : List Cond} {fs : List Value} (hx : p.tables.exec = Jvm.exec) (hb : c.code = cc) (hts : ∀ w ∈ Ts, w.before args s = true) (hown : s.vm.findClass own = some m.cls) (hcl : (Cond.classLink own index C).before args s = true) (hinst : (Cond.instantiable C N).before args s = true) (hini : (Cond.initialized C).before args s = true)
    (hK : gK G s) (hc : vwCl[ci]? = some (C, T, N)) (hin : ∀ w ∈ u_ws C T N, w ∈ Ts) (ty : Nat → FieldType) (hty : ∀ k, k < N → parseFieldDescriptor (T k).2.2.1 = some (ty k)) (hfs : ∀ j, j < N → defaultValue (ty j) = vp_V fs j) (hS : va_S (gA lo hi H0.size) H0 H locs) (hcells : cells + 1 ≤ R.cells) (hslots : slots + N ≤ R.slots) (hdg : decode cc pc = .ok (.new index, 3))
    (kk : ∀ (z : Nat) (H1 : Heap), H.size = z → H0.size ≤ z → gO G z ci fs H1 → gF 0 0 H H1 → H1.size = z + 1 → va_S (gA lo hi H0.size) H0 H1 locs → W p l e R s m args below meth c H1 locs (cells + 1) (slots + N) Q (F0 m (pc + 3) ls (.ref z :: rest))) : W p l e R s m args below meth c H locs cells slots Q (F0 m pc ls rest) := by
  have hKn := hK.1 ci _ hc
  refine W.newcK hx hb hown hcl hinst hini rfl hdg hcells hslots hKn.2.1 rfl fun H1 kC hkC e1 z1 o1 => ?_
  exact kk H.size H1 rfl hS.1 ⟨_, hc, (u_born ty hts hin hKn hkC e1 hty).to hfs⟩ ⟨by omega, fun q hq _ => o1 q hq⟩ z1 ⟨Nat.le_trans hS.1 (by omega), fun x h1 h2 => (o1 x (Nat.lt_of_lt_of_le h1 hS.1)).trans (hS.2.1 x h1 h2), hS.2.2⟩
theorem x_objInit {own : String} {index a : Nat} (hx : p.tables.exec = Jvm.exec) (hb : c.code = cc) (hml : c.maxLocals = ls.size) (hown : s.vm.findClass own = some m.cls) (hlink : (Cond.methodLink own index Lib.objectInit).before args s = true) (hinst : (Cond.instanceMethod Lib.objectInit).before args s = true) (hcode : (Cond.code Lib.objectInit ⟨#[0xb1]⟩ 1 none).before args s = true)
    (hdg : decode cc pc = .ok (.invokespecial index, 3)) (hf : 1 ≤ R.frames) (hl : (rest.map fun v => v.category).sum + 12 ≤ R.locals)
    (kk : W p l e R s m args below meth c H locs cells slots Q (F0 m (pc + 3) ls rest)) : W p l e R s m args below meth c H locs cells slots Q (F0 m pc ls (.ref a :: rest)) :=
  W.objInit (g := F0 m pc ls (.ref a :: rest)) hx hb hown hlink hinst hcode rfl hml.symm rfl hdg hf (by show 2 * 0 + _ + 12 ≤ _; omega) kk
end NM
/-! ===== the state as it is made ===== -/
/-- the versions that are made: the spare one, and those of the first i slots -/
def VRs (G : gG) (b i : Nat) (H : Heap) : Prop := ∀ k, k < i + 1 → VR G (vk b k) [48] (tk [48]) H
theorem VRs.fr {G : gG} {b i lo hi : Nat} {H H1 : Heap} (h : VRs G b i H) (f : gF lo hi H H1) (hd : b + 7 + 12 * (i + 1) ≤ lo ∨ hi ≤ b + 7 ∨ hi ≤ lo) : VRs G b i H1 := by
  intro k hk
  rcases hd with hd | hd | hd
  · exact (h k hk).fr f (by unfold vk; omega)
  · exact (h k hk).fr f (by unfold vk; omega)
  · exact (h k hk).fr (f.widen (lo := 0) (hi := 0) (by omega)) (by omega)
theorem VRs.add {G : gG} {b i : Nat} {H : Heap} (h : VRs G b i H) (h2 : VR G (vk b (i + 1)) [48] (tk [48]) H) : VRs G b (i + 1) H := by
  intro k hk
  by_cases e : k = i + 1
  · rw [e]; exact h2
  · exact h k (by omega)
theorem VRs.lt {G : gG} {b i : Nat} {H : Heap} (h : VRs G b i H) : b + 7 + 12 * (i + 1) ≤ H.size := by
  have := (h i (by omega)).vo.lt
  unfold vk at this
  omega
theorem Gt_0 : Gt [48] := by
  have h := Gt_begin (n := 0) (z := 0) (by decide) (by decide)
  unfold num at h
  rw [dg_small (by decide)] at h
  exact h
/-- the reference as it is made -/
def MI (G : gG) (y : Nat) (H : Heap) : Prop := MO G y (nI 0) (nI 0) H ∧ TA G (y + 1) [] H ∧ (∃ f2 : Nat → Option Nat, gQ G (y + 2) 4 8 f2 H ∧ ∀ i, i < 8 → f2 i = some (y + 3 + i)) ∧ (∃ f11 : Nat → Int32, gI G (y + 11) 1 8 f11 H ∧ ∀ i, i < 8 → f11 i = nI 1) ∧ (∀ i, i < 8 → TA G (y + 3 + i) [48] H) ∧ LA G y (fun _ => none) H
theorem MI.W {G : gG} {y : Nat} {H H1 : Heap} (h : MI G y H) (f : gF 0 0 H H1) (hy : y + 34 < H1.size) : MW G y [] (fun _ => [48]) 0 H1 := by
  obtain ⟨h1, h2, ⟨f2, h3, h3b⟩, ⟨f11, h4, h4b⟩, h5, h6⟩ := h
  refine ⟨fun i => y + 3 + i, fun _ => none, ⟨h1.fr f (by omega), h2.fr f (by omega), ⟨f2, h3.fr f (by omega), h3b⟩, ⟨f11, h4.fr f (by omega), h4b⟩, fun i hi => ⟨(h5 i hi).fr f (by omega), Gt_0, Or.inl ⟨by show y + 3 ≤ y + 3 + i; omega, by show y + 3 + i < y + 11; omega⟩, by show y + 3 + i < H1.size; omega⟩, Or.inl rfl, hy, Nat.le_refl _⟩, h6.fr f (by omega)⟩
/-- two arrays of three rows -/
def Grd (G : gG) (z : Nat) (H : Heap) : Prop := gQ G z 5 2 (rwk (z + 1) 4 2) H ∧ (∀ s, s < 2 → gQ G (z + 1 + 4 * s) 3 3 (rw3 (z + 2 + 4 * s)) H) ∧ ∀ s r, s < 2 → r < 3 → gI G (z + 2 + 4 * s + r) 1 60 (fun _ => nI 0) H
theorem Grd.of {G : gG} {z : Nat} {H : Heap} (h1 : gQ G z 5 2 (fun i => if i < 2 then some (z + 1 + (1 + 3) * i) else none) H) (h2 : ∀ i, i < 2 → gQ G (z + 1 + (1 + 3) * i) 3 3 (fun r => if r < 3 then some (z + 1 + (1 + 3) * i + 1 + r) else none) H) (h3 : ∀ i r, i < 2 → r < 3 → gI G (z + 1 + (1 + 3) * i + 1 + r) 1 60 (fun _ => nI 0) H) : Grd G z H := by
  refine ⟨h1, fun s hs => ?_, fun s r hs hr => ?_⟩
  · have h := h2 s hs
    rw [show z + 1 + (1 + 3) * s + 1 = z + 2 + 4 * s by omega, show z + 1 + (1 + 3) * s = z + 1 + 4 * s by omega] at h
    exact h
  · have h := h3 s r hs hr
    rw [show z + 1 + (1 + 3) * s + 1 = z + 2 + 4 * s by omega] at h
    exact h
theorem Grd.fr {G : gG} {z lo hi : Nat} {H H1 : Heap} (h : Grd G z H) (f : gF lo hi H H1) (hd : hi ≤ z ∨ z + 9 ≤ lo ∨ hi ≤ lo) : Grd G z H1 := by
  have f2 : ∃ lo2 hi2, gF lo2 hi2 H H1 ∧ (hi2 ≤ z ∨ z + 9 ≤ lo2) := by
    rcases hd with hd | hd | hd
    · exact ⟨lo, hi, f, Or.inl hd⟩
    · exact ⟨lo, hi, f, Or.inr hd⟩
    · exact ⟨0, 0, f.widen (by omega), Or.inl (Nat.zero_le _)⟩
  obtain ⟨lo2, hi2, f, hd⟩ := f2
  exact ⟨h.1.fr f (by omega), fun s hs => (h.2.1 s hs).fr f (by omega), fun s r hs hr => (h.2.2 s r hs hr).fr f (by omega)⟩
/-- the rows of the texts: the first i are told -/
def TXs (G : gG) (y i : Nat) (H : Heap) : Prop := (∀ k, k < i → TA G (y + 3 + k) [48] H) ∧ ∀ k, i ≤ k → k < 8 → gI G (y + 3 + k) 0 60 (fun _ => nI 0) H
theorem TXs.fr {G : gG} {y i lo hi : Nat} {H H1 : Heap} (h : TXs G y i H) (f : gF lo hi H H1) (hi8 : i ≤ 8) (hd : hi ≤ y + 3 ∨ y + 11 ≤ lo) : TXs G y i H1 := ⟨fun k hk => (h.1 k hk).fr f (by omega), fun k h1 h2 => (h.2 k h1 h2).fr f (by omega)⟩
theorem TXs.step {G : gG} {y i : Nat} {H H1 : Heap} (h : TXs G y i H) (f : gF (y + 2 + 1 + i) (y + 2 + 1 + i + 1) H H1) (hr : gI G (y + 2 + 1 + i) 0 60 (upd (fun _ => nI 0) 0 (nI 48)) H1) : TXs G y (i + 1) H1 := by
  refine ⟨fun k hk => ?_, fun k h1 h2 => (h.2 k (by omega) h2).fr f (by omega)⟩
  by_cases e : k = i
  · subst e
    refine ⟨_, hr, fun j hj => ?_, by decide, fun c hc => by rw [List.mem_singleton.mp hc]; decide⟩
    have : j = 0 := Nat.lt_one_iff.mp hj
    subst this
    rfl
  · exact (h.1 k (by omega)).fr f (by omega)
theorem rwk_1 (b n : Nat) : (fun i => if i < n then some (b + i) else none) = rwk b 1 n := by
  funext i
  unfold rwk
  rw [Nat.one_mul]
/-- the words of the reference's constructor, the three-fold array's among them -/
def wsX3_ini : List Cond := .code yX3_init cX3_init 2 none :: (.classLink RX3 31 "[[[I" :: wsX3_init.tail)
