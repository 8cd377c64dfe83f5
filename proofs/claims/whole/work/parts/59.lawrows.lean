/-! ===== the law's own methods: each catches what the class throws ===== -/
/-- none of the three is another -/
def gX (U : State) : Prop := va_Nc xIA xIS U ∧ va_Nc xIA xIO U ∧ va_Nc xIS xIA U ∧ va_Nc xIS xIO U ∧ va_Nc xIO xIA U ∧ va_Nc xIO xIS U
theorem gX.moved {u U : State} (hvm : u.vm.Alike U.vm) (h : gX u) : gX U := by
  obtain ⟨h1, h2, h3, h4, h5, h6⟩ := h
  exact ⟨h1.moved hvm, h2.moved hvm, h3.moved hvm, h4.moved hvm, h5.moved hvm, h6.moved hvm⟩
def XL (l : Launch) (y : MethodName) (ws : List Cond) (rm : Room) (G : gG) (av : List Value) (H0 : Heap) (lo hi mc ms : Nat) (Q : Option Value → Heap → Prop) (X : String → Heap → Prop) : Prop :=
  vx_Met l y ws rm (va_Pc av (fun U => U.heap = H0 ∧ gE l G lo hi U ∧ gX U)) (fun _ st o t => (∃ v, o = .returned v ∧ Q v t.heap) ∧ va_F (gA lo hi H0.size) st t) (fun E st t => X E t.heap ∧ va_F (gA lo hi H0.size) st t) mc ms (gA lo hi H0.size)
theorem x_ofWT {l : Launch} {y : MethodName} {ws ws' : List Cond} {rm : Room} {G : gG} {av : List Value} {H0 : Heap} {lo hi mc ms : Nat} {Q : Option Value → Heap → Prop} {X : String → Heap → Prop} {cc : ByteArray} {maxL : Nat} {ret : Option FieldType} {hh : List (Nat × Nat × Nat × Nat)}
    (hy : plainName y.cls = true) (hw : ws = Cond.codeWith y cc maxL ret hh :: ws') (hlen : (lg_sl av).length ≤ maxL)
    (body : ∀ (p : Program) (e : Env) (s : State) (m : MethodId) (below : List Frame) (meth : Method) (c : Code), p.tables.exec = Jvm.exec → c.code = cc → meth.sig.returnType = ret → c.maxLocals = maxL → s.vm.findClass y.cls = some m.cls → (∀ w ∈ ws, w.before av.toArray s = true) → meth.locks = false → c.exceptionTable.toList = tableOf hh → meth.name = y.name → s.heap = H0 → gE l G lo hi s → gX s → ∀ ls : Array Slot, lv_has ls maxL (lv_args 0 av) →
      W p l e rm s m av.toArray below meth c H0 [] 0 0 (XQ below av.toArray s H0 lo hi mc ms Q X) (F0 m 0 ls [])) : XL l y ws rm G av H0 lo hi mc ms Q X := by
  refine vx_ofWH (cc := cc) (maxL := maxL) (ret := ret) (hh := hh) hy hw ?_
  intro p e s m args below meth c s₁ B hml hv
  obtain ⟨rfl, hH, hE, hX⟩ := hv
  have hl := lv_entry av (n := maxL) hlen
  rw [lg_entry_eq]
  generalize (lg_sl av ++ List.replicate (maxL - (lg_sl av).length) Slot.unset).toArray = ls at hl ⊢
  rw [hH]
  exact body p e s m below meth c B.exec B.bytes B.returns hml (findClass_of_methodNamed B.named) (atoms_spec (ws := ws) B.pre) B.notSynchronized (vx_table (x := y) B (atoms_spec (ws := ws) B.pre _ (by rw [hw]; exact List.mem_cons_self))) (name_of_methodNamed B.named B.method).1 hH hE hX ls hl
theorem cast_self {E : String} {k : ClassId} {args : Array Value} {s : State} (h : s.vm.findClass E = some k) : (Cond.castable E E).before args s = true := by
  have ha : s.vm.assignable k k = true := by unfold Vm.assignable; rw [Vm.assignableAux, beq_self_eq_true, Bool.true_or]
  unfold Cond.before Cond.holds
  simp only [Cond.value, h, ha]
  rfl
section LW
variable {p : Program} {l : Launch} {e : Env} {R : Room} {s : State} {m : MethodId} {args : Array Value} {below : List Frame} {meth : Method} {c : Code} {H : Heap} {locs : List Loc} {cells slots : Nat} {Q : State → Prop}
variable {cc : ByteArray} {pc : Nat} {ls : Array Slot} {rest : List Value} {H0 : Heap} {G : gG} {lo hi lo1 hi1 mc1 ms1 : Nat} {Q1 : Option Value → Heap → Prop} {X1 : String → Heap → Prop}
variable {y : MethodName} {bytes : ByteArray} {maxL nL n index : Nat} {ret : Option FieldType} {ws : List Cond} {rm : Room} {Ts : List Cond} {own C : String} {As : List Value} {g : JFrame} {hh : List (Nat × Nat × Nat × Nat)}
theorem x_blindL {av : List Value} : FrameBlind (va_Pc av (fun U => U.heap = H ∧ gE l G lo hi U ∧ gX U)) := by
  intro a U g mk q
  obtain ⟨q1, q2, q3, q4⟩ := q
  obtain ⟨h1, h2, h3⟩ := x_blind (l := l) (G := G) (lo := lo) (hi := hi) (H := H) (av := av) a U g mk ⟨q1, q2, q3⟩
  exact ⟨h1, h2, h3, gX.moved (u := U) (U := U.calling g mk a) (Vm.Alike.refl U.vm) q4⟩
theorem x_runSL (S : CallFix p m c cc nL s args Ts own) (hE : gE l G lo hi s) (hX : gX s) (h0 : s.heap = H0) (hS : va_S (gA lo hi H0.size) H0 H locs) (hM : XL l y ws rm G As H lo1 hi1 mc1 ms1 Q1 X1) (cw : vx_CSW R s args own index y bytes maxL ret hh ws rm mc1 ms1 n) (hsub : (lo ≤ lo1 ∧ hi1 ≤ hi) ∨ hi1 ≤ lo1 ∨ H0.size ≤ lo1)
    (hg : g.method = m) (hn : As.length = n) (hsize : g.locals.size = nL) (hstack : g.stack = As.reverse ++ rest) (hW : 2 * g.monitorRoom + (rest.map fun v => v.category).sum ≤ 8) (hdg : decode cc g.pc = .ok (.invokestatic index, 3)) (hf : cells + mc1 ≤ R.cells ∧ slots + ms1 ≤ R.slots) :
    XRun p l e R s m args below meth c H locs cells slots mc1 ms1 g rest lo1 hi1 Q1 X1 :=
  vx_runSX S hM cw ⟨x_blindL, fun U hU hW => ⟨rfl, hU, x_pre hE h0 hS hsub U hU hW, gX.moved hW.alike hX⟩⟩ hg hn hsize hstack hW hdg hf
end LW
theorem MW.fr {G : gG} {y lo hi : Nat} {L : List Nat} {txt : Nat → List Nat} {th : Int32} {H H1 : Heap} (h : MW G y L txt th H) (f : gF lo hi H H1) (hd : hi ≤ y ∨ (y + 34 ≤ lo ∧ hi ≤ y + 35) ∨ hi ≤ lo) : MW G y L txt th H1 := by
  obtain ⟨tad, w, hMT, hLA⟩ := h
  have f2 : ∃ lo2 hi2, gF lo2 hi2 H H1 ∧ (hi2 ≤ y ∨ (y + 34 ≤ lo2 ∧ hi2 ≤ y + 35)) := by
    rcases hd with hd | hd | hd
    · exact ⟨lo, hi, f, Or.inl hd⟩
    · exact ⟨lo, hi, f, Or.inr hd⟩
    · exact ⟨0, 0, f.widen (by omega), Or.inl (Nat.zero_le _)⟩
  obtain ⟨lo2, hi2, f, hd⟩ := f2
  exact ⟨tad, w, (hMT.fr f (by omega)).rise f.1 (Nat.le_refl _), hLA.fr f (by omega)⟩
theorem MW.congr {G : gG} {y : Nat} {L : List Nat} {t1 t2 : Nat → List Nat} {th : Int32} {H : Heap} (h : MW G y L t1 th H) (e : ∀ i, i < 8 → t1 i = t2 i) : MW G y L t2 th H := by
  obtain ⟨tad, w, ⟨h1, h2, h3, ⟨f11, h4, h4b⟩, h5, h6, h7, h8⟩, hLA⟩ := h
  exact ⟨tad, w, ⟨h1, h2, h3, ⟨f11, h4, fun i hi => by rw [← e i hi]; exact h4b i hi⟩, fun i hi => by rw [← e i hi]; exact h5 i hi, h6, h7, h8⟩, hLA⟩
theorem MW.gs {G : gG} {y : Nat} {L : List Nat} {txt : Nat → List Nat} {th : Int32} {H : Heap} (h : MW G y L txt th H) : ∀ i, i < 8 → Gt (txt i) := by
  obtain ⟨tad, w, hMT, hLA⟩ := h
  exact hMT.gs
theorem MW.O {G : gG} {y : Nat} {L : List Nat} {txt : Nat → List Nat} {th : Int32} {H : Heap} (h : MW G y L txt th H) : MO G y (nI L.length) th H := by
  obtain ⟨tad, w, hMT, hLA⟩ := h
  exact hMT.O
/-- the law's cell for an answer -/
def OJ (G : gG) (o : Nat) (H : Heap) : Prop := ∃ f : Nat → Int64, gJ G o 6 1 f H
theorem OJ.fr {G : gG} {o lo hi : Nat} {H H1 : Heap} (h : OJ G o H) (f : gF lo hi H H1) (hd : o < lo ∨ hi ≤ o) : OJ G o H1 := by
  obtain ⟨g, h⟩ := h
  exact ⟨g, h.fr f hd⟩
def OV (G : gG) (o : Nat) (v : Int64) (H : Heap) : Prop := ∃ f : Nat → Int64, gJ G o 6 1 f H ∧ f 0 = v
theorem bJ_t : (1 : Int64) = (bI true).toInt64 := by decide
theorem bJ_f : (0 : Int64) = (bI false).toInt64 := by decide
