/-! ===== the heap by facts of single cells; contracts by what the heap is before and behind ===== -/
abbrev gG : Type := va_G × ((Nat → ClassId) × Nat)
def gTy (k : Nat) : FieldType := match k with
  | 0 => .char
  | 1 => .int
  | 2 => .object RX1
  | 3 => .array .int
  | 4 => .array .char
  | 5 => .array (.array .int)
  | _ => .long
def gTys (G : gG) : List (ClassId × FieldType) := (List.range 7).map (fun k => (G.2.1 k, gTy k))
def gK (G : gG) (U : State) : Prop := va_K G.1 vwCl (gTys G) U
theorem gTys_at {G : gG} {k : Nat} (hk : k < 7) : (gTys G)[k]? = some (G.2.1 k, gTy k) := by simp [gTys, hk]
def gO (G : gG) (a ci : Nat) (fs : List Value) (H : Heap) : Prop := va_at G.1 vwCl (a, .inr (ci, fs)) H
def gC (G : gG) (a k : Nat) (x : vp_A) (H : Heap) : Prop := va_at G.1 vwCl (a, .inl (G.2.1 k, x)) H
abbrev gI (G : gG) (a k n : Nat) (f : Nat → Int32) (H : Heap) : Prop := gC G a k (n, .inl f) H
abbrev gJ (G : gG) (a k n : Nat) (f : Nat → Int64) (H : Heap) : Prop := gC G a k (n, .inr (.inl f)) H
abbrev gQ (G : gG) (a k n : Nat) (f : Nat → Option Nat) (H : Heap) : Prop := gC G a k (n, .inr (.inr (.inr (.inr f)))) H
/-- what is old and outside lo .. hi - 1 stays -/
def gF (lo hi : Nat) (H H1 : Heap) : Prop := H.size ≤ H1.size ∧ ∀ q : Nat, q < H.size → (q < lo ∨ hi ≤ q) → H1[q]? = H[q]?
def gA (lo hi sz : Nat) : Nat → Prop := fun q => (lo ≤ q ∧ q < hi) ∨ sz ≤ q
theorem gF.rf {lo hi : Nat} {H : Heap} : gF lo hi H H := ⟨Nat.le_refl _, fun _ _ _ => rfl⟩
theorem gF.trans {lo hi lo1 hi1 : Nat} {H H1 H2 : Heap} (h : gF lo hi H H1) (h1 : gF lo1 hi1 H1 H2) (hs : (lo ≤ lo1 ∧ hi1 ≤ hi) ∨ hi1 ≤ lo1 ∨ H.size ≤ lo1) : gF lo hi H H2 := by
  refine ⟨Nat.le_trans h.1 h1.1, fun q hq ho => ?_⟩
  rw [h1.2 q (Nat.lt_of_lt_of_le hq h.1) (by omega)]
  exact h.2 q hq ho
theorem gF.widen {lo hi lo1 hi1 : Nat} {H H1 : Heap} (h : gF lo1 hi1 H H1) (hs : (lo ≤ lo1 ∧ hi1 ≤ hi) ∨ hi1 ≤ lo1 ∨ H.size ≤ lo1) : gF lo hi H H1 := gF.trans gF.rf h hs
theorem gO.lt {G : gG} {a ci : Nat} {fs : List Value} {H : Heap} (h : gO G a ci fs H) : a < H.size := va_at.lt h
theorem gC.lt {G : gG} {a k : Nat} {x : vp_A} {H : Heap} (h : gC G a k x H) : a < H.size := va_at.lt h
theorem gO.fr {G : gG} {a ci lo hi : Nat} {fs : List Value} {H H1 : Heap} (h : gO G a ci fs H) (f : gF lo hi H H1) (hd : a < lo ∨ hi ≤ a) : gO G a ci fs H1 := va_at.kept h (f.2 a h.lt hd)
theorem gC.fr {G : gG} {a k lo hi : Nat} {x : vp_A} {H H1 : Heap} (h : gC G a k x H) (f : gF lo hi H H1) (hd : a < lo ∨ hi ≤ a) : gC G a k x H1 := va_at.kept h (f.2 a h.lt hd)
theorem gO.P {G : gG} {a ci : Nat} {fs : List Value} {H : Heap} (h : gO G a ci fs H) : va_P G.1 vwCl [(a, .inr (ci, fs))] H := by
  intro k q hq
  cases k with
  | zero => cases hq; exact h
  | succ k => simp at hq
theorem gC.P {G : gG} {a k : Nat} {x : vp_A} {H : Heap} (h : gC G a k x H) : va_P G.1 vwCl [(a, .inl (G.2.1 k, x))] H := by
  intro k q hq
  cases k with
  | zero => cases hq; exact h
  | succ k => simp at hq
/-- the texts of the exceptions -/
def gStrs : List (String × Nat × String) := [(RX2, 75, "a word has 1 to 5 letters"), (RX2, 94, "the draft is empty"), (RX2, 128, "the row has no such place"), (RX2, 142, "the places are 0 to 7"), (RX2, 154, "the letters are a to z"), (RX2, 162, "the version has an early row"), (RX2, 169, "the version has no early row, or a build row"), (RX2, 204, "the number is out of range"), (RX2, 206, "0 to 3 zeros go ahead of the digits"), (RX2, 208, "there is no such way to join"), (RX2, 213, "two tokens of one kind need a sign between"), (RX2, 219, "a build row is told only behind an early one"), (RX2, 221, "a text has at most 60 signs"), (RX2, 223, "the text has no such place"), (RX2, 225, "the slots are 0 to 7"), (RX2, 227, "the rows are 0 to 2")]
/-- words of the exceptions that aren't good ones -/
def gB : List Cond := (vx_atS RX2 77 "java/lang/IllegalArgumentException" ["java/lang/RuntimeException", "java/lang/Exception"] ++ vx_atS RX2 164 "java/lang/IllegalStateException" ["java/lang/RuntimeException", "java/lang/Exception"] ++ vx_atS RX2 130 "java/lang/IndexOutOfBoundsException" ["java/lang/RuntimeException", "java/lang/Exception"]).filter (fun w => !goodWord w) ++ [.methodLinkNest RX2 9 yX0_init RX2, .methodLinkNest RX0 33 yX2_letterOf RX2, .methodLinkNest RX0 36 yX2_kindOf RX2, .methodLinkNest RX1 100 yX2_orderOfNumbers RX2, .methodLinkNest RX1 11 yX0_init RX2, .methodLinkNest RX1 52 yX2_kindOf RX2, .fieldLinkNest RX2 106 "Releaseledger$Version" "told" "LReleaseledger$Text;" RX2]
def gDecl (w : Cond) : Bool := match w with
  | .declares _ => true
  | .methodLinkNest _ _ _ _ => true
  | .castable _ _ => true
  | .fieldLinkNest _ _ _ _ _ _ => true
  | _ => false
theorem gB_decl : gB.all gDecl = true := by decide +kernel
/-- the class of arrays of arrays of a type is there -/
def gAr (t : FieldType) (U : State) : Prop := (Cond.arrayOver (.array t)).before #[] U = true
theorem gAr.moved {t : FieldType} {u U : State} (hvm : u.vm.Alike U.vm) (h : gAr t u) : gAr t U := by
  have h0 := h
  unfold gAr Cond.before Cond.holds at h0
  simp only [Cond.value, beq_iff_eq] at h0
  cases hc : u.vm.findClass (FieldType.array t).toString with
  | none => simp [hc] at h0
  | some comp =>
    simp only [hc, Option.bind_some, Option.bind_eq_some_iff, Option.map_eq_some_iff] at h0
    obtain ⟨c, h2, k, hk, hb⟩ := h0
    have hlt := (Array.findIdx?_eq_some_iff_getElem.mp h2).1
    obtain ⟨hlt', hp, -⟩ := Array.findIdx?_eq_some_iff_getElem.mp h2
    have hkk : u.vm.classes[c] = k := (Array.getElem?_eq_some_iff.mp hk).2
    rw [hkk] at hp
    obtain ⟨k', hk', he⟩ := hvm.2.2 _ _ hk
    have e1 := va_idx_bare u.vm comp
    have e2 := va_idx_bare U.vm comp
    have e3 : u.vm.bare = U.vm.bare := by first | exact hvm.bare_eq | exact hvm.bare_eq.symm
    rw [e3] at e1
    have hi := e2.symm.trans (e1.trans h2)
    cases hkind : k.kind with
    | array component ty =>
      rw [hkind] at hb hp
      simp at hb hp
      have hkind' : k'.kind = .array comp (.array t) := by rw [he, hkind, hp, hb.1]
      have f1 : U.vm.findClass (FieldType.array t).toString = some comp := by rw [hvm.findClass]; exact hc
      have f2 : U.vm.findClass ("[" ++ (FieldType.array t).toString) = some c := by rw [hvm.findClass]; exact hb.2
      unfold gAr Cond.before Cond.holds
      simp only [Cond.value]
      rw [f1, Option.bind_some]
      refine (congrArg (fun o : Option Nat => (o.bind (fun c => (U.vm.classes[c]?).map fun (k : Class) => match k.kind with | .array _ ty => decide (ty = FieldType.array t) && decide (U.vm.findClass ("[" ++ (FieldType.array t).toString) = some c) | _ => false) == some true)) hi).trans ?_
      simp [hk', hkind', f2]
    | _ => rw [hkind] at hb; simp at hb
def gZ (l : Launch) (G : gG) (U : State) (H : Heap) : Prop := l.stackTraces = false ∧ vx_Zq Bundle.tN "UNASSIGNED_STACK" Bundle.steD (fun q => G.2.2 ≤ q) U H ∧ vx_Zq Bundle.tN "SUPPRESSED_SENTINEL" Bundle.listD (fun q => G.2.2 ≤ q) U H ∧ (∀ q ∈ gStrs, ∃ sa : Nat, vk_R q.1 q.2.1 q.2.2 sa U) ∧ (∀ w ∈ gB, w.before #[] U = true) ∧ va_AO RX1 U ∧ gAr .int U ∧ gAr .char U ∧ gAr (.array .int) U
theorem gZ.moved {l : Launch} {G : gG} {u U : State} {H H1 : Heap} (hW : u.WarmedH U.vm) (hq : ∀ a : Nat, a < H.size → a < G.2.2 → H1[a]? = H[a]?) (h : gZ l G u H) : gZ l G U H1 := by
  obtain ⟨h1, h2, h3, h4, h5, h6, h7, h8, h9⟩ := h
  have hq' : ∀ a : Nat, a < H.size → ¬ (fun q => G.2.2 ≤ q) a → H1[a]? = H[a]? := fun a h1 h2 => hq a h1 (Nat.not_le.mp h2)
  refine ⟨h1, vx_Zq.kept (vx_Zq.moved hW.alike h2) hq', vx_Zq.kept (vx_Zq.moved hW.alike h3) hq', fun q hq => ?_, fun w hw => ?_, h6.moved hW.alike, h7.moved hW.alike, h8.moved hW.alike, h9.moved hW.alike⟩
  · obtain ⟨sa, h⟩ := h4 q hq
    exact ⟨sa, vk_R.warm hW h⟩
  · have hd := List.all_eq_true.mp gB_decl w hw
    have hb := h5 w hw
    cases w <;> first | exact va_Nw.warmD hW hb | exact va_Nw.warmM hW hb | exact va_Nw.warmC hW hb | exact va_Nw.warmF hW hb | cases hd
def gE (l : Launch) (G : gG) (lo hi : Nat) (U : State) : Prop := gK G U ∧ gZ l G U U.heap ∧ G.2.2 ≤ U.heap.size ∧ (lo < hi → G.2.2 ≤ lo)
/-- a method's contract: from the heap H0 it answers as Q says, or throws as X says; it changes lo .. hi - 1 and what is new -/
def XM (l : Launch) (y : MethodName) (ws : List Cond) (rm : Room) (G : gG) (av : List Value) (H0 : Heap) (lo hi mc ms : Nat) (Q : Option Value → Heap → Prop) (X : String → Heap → Prop) : Prop :=
  vx_Met l y ws rm (va_Pc av (fun U => U.heap = H0 ∧ gE l G lo hi U)) (fun _ st o t => (∃ v, o = .returned v ∧ Q v t.heap) ∧ va_F (gA lo hi H0.size) st t) (fun E st t => X E t.heap ∧ va_F (gA lo hi H0.size) st t) mc ms (gA lo hi H0.size)
def xN : String → Heap → Prop := fun _ _ => False
def qV (Q : Heap → Prop) : Option Value → Heap → Prop := fun v H => v = none ∧ Q H
def qI (Q : Int32 → Heap → Prop) : Option Value → Heap → Prop := fun v H => ∃ r, v = some (.int r) ∧ Q r H
def qR (Q : Nat → Heap → Prop) : Option Value → Heap → Prop := fun v H => ∃ r, v = some (.ref r) ∧ Q r H
def qL (Q : Int64 → Heap → Prop) : Option Value → Heap → Prop := fun v H => ∃ r, v = some (.long r) ∧ Q r H
def qF (Q : UInt32 → Heap → Prop) : Option Value → Heap → Prop := fun v H => ∃ r, v = some (.float r) ∧ Q r H
/-- what a body owes at its end -/
abbrev XQ (below : List Frame) (args : Array Value) (s : State) (H0 : Heap) (lo hi mc ms : Nat) (Q : Option Value → Heap → Prop) (X : String → Heap → Prop) : State → Prop :=
  vx_MQ below (fun _ st o t => (∃ v, o = .returned v ∧ Q v t.heap) ∧ va_F (gA lo hi H0.size) st t) (fun E st t => X E t.heap ∧ va_F (gA lo hi H0.size) st t) args s mc ms (gA lo hi H0.size)
theorem x_ofW {l : Launch} {y : MethodName} {ws ws' : List Cond} {rm : Room} {G : gG} {av : List Value} {H0 : Heap} {lo hi mc ms : Nat} {Q : Option Value → Heap → Prop} {X : String → Heap → Prop} {cc : ByteArray} {maxL : Nat} {ret : Option FieldType}
    (hy : plainName y.cls = true) (hw : ws = Cond.code y cc maxL ret :: ws') (hlen : (lg_sl av).length ≤ maxL)
    (body : ∀ (p : Program) (e : Env) (s : State) (m : MethodId) (below : List Frame) (meth : Method) (c : Code), p.tables.exec = Jvm.exec → c.code = cc → meth.sig.returnType = ret → c.maxLocals = maxL → s.vm.findClass y.cls = some m.cls → (∀ w ∈ ws, w.before av.toArray s = true) → meth.locks = false → (∀ x ∈ c.exceptionTable.toList, False) → meth.name = y.name → s.heap = H0 → gE l G lo hi s → ∀ ls : Array Slot, lv_has ls maxL (lv_args 0 av) →
      W p l e rm s m av.toArray below meth c H0 [] 0 0 (XQ below av.toArray s H0 lo hi mc ms Q X) (F0 m 0 ls [])) : XM l y ws rm G av H0 lo hi mc ms Q X := by
  refine vx_ofW (cc := cc) (maxL := maxL) (ret := ret) hy hw ?_
  intro p e s m args below meth c s₁ B hml hout hv
  obtain ⟨rfl, hH, hE⟩ := hv
  have hl := lv_entry av (n := maxL) hlen
  rw [lg_entry_eq]
  generalize (lg_sl av ++ List.replicate (maxL - (lg_sl av).length) Slot.unset).toArray = ls at hl ⊢
  rw [hH]
  exact body p e s m below meth c B.exec B.bytes B.returns hml (findClass_of_methodNamed B.named) (atoms_spec (ws := ws) B.pre) B.notSynchronized hout (name_of_methodNamed B.named B.method).1 hH hE ls hl
section GB
variable {p : Program} {l : Launch} {e : Env} {R : Room} {s : State} {m : MethodId} {args : Array Value} {below : List Frame} {meth : Method} {c : Code} {H : Heap} {locs : List Loc} {cells slots : Nat} {Q : State → Prop}
variable {cc : ByteArray} {pc : Nat} {ls : Array Slot} {rest : List Value} {H0 : Heap} {lo hi mc ms : Nat} {Qv : Option Value → Heap → Prop} {X : String → Heap → Prop}
theorem gA.new {lo hi sz q : Nat} (h : sz ≤ q) : gA lo hi sz q := Or.inr h
theorem x_S0 : va_S (gA lo hi H0.size) H0 H0 [] := va_S.rf
theorem x_F {t : State} {A : Nat → Prop} (h0 : s.heap = H0) (hS : va_S A H0 H locs) (ht : t.heap = H) : va_F A s t := by
  subst h0
  exact hS.F ht
theorem x_vret (hx : p.tables.exec = Jvm.exec) (hb : c.code = cc) (hr : meth.sig.returnType = none) (hlocks : meth.locks = false) (h0 : s.heap = H0) (hS : va_S (gA lo hi H0.size) H0 H locs) (hc : cells ≤ mc) (hs : slots ≤ ms) (hdg : decode cc pc = .ok (.return_, 1)) {Q : Heap → Prop} (hq : Q H) :
    W p l e R s m args below meth c H locs cells slots (XQ below args s H0 lo hi mc ms (qV Q) X) (F0 m pc ls []) :=
  vx_ret (W.widen (k := mc) (n := ms) hc hs (W.vret hx hb hr (fun t ht _ => ⟨⟨none, rfl, rfl, by rw [ht]; exact hq⟩, x_F h0 hS ht⟩) hS.2.2 hdg hlocks))
theorem x_zret {ty : FieldType} {v : Int32} (hx : p.tables.exec = Jvm.exec) (hb : c.code = cc) (hr : meth.sig.returnType = some ty) (hlocks : meth.locks = false) (h0 : s.heap = H0) (hS : va_S (gA lo hi H0.size) H0 H locs) (hc : cells ≤ mc) (hs : slots ≤ ms) (hdg : decode cc pc = .ok (.ireturn, 1)) {Q : Int32 → Heap → Prop} (hn : narrow ty (.int v) = .int v) (hq : Q v H) :
    W p l e R s m args below meth c H locs cells slots (XQ below args s H0 lo hi mc ms (qI Q) X) (F0 m pc ls [.int v]) :=
  vx_ret (W.widen (k := mc) (n := ms) hc hs (W.zret hx hb hr hn (fun t ht _ => ⟨⟨_, rfl, v, rfl, by rw [ht]; exact hq⟩, x_F h0 hS ht⟩) hS.2.2 hdg hlocks))
theorem x_iret {v : Int32} (hx : p.tables.exec = Jvm.exec) (hb : c.code = cc) (hr : meth.sig.returnType = some .int) (hlocks : meth.locks = false) (h0 : s.heap = H0) (hS : va_S (gA lo hi H0.size) H0 H locs) (hc : cells ≤ mc) (hs : slots ≤ ms) (hdg : decode cc pc = .ok (.ireturn, 1)) {Q : Int32 → Heap → Prop} (hq : Q v H) :
    W p l e R s m args below meth c H locs cells slots (XQ below args s H0 lo hi mc ms (qI Q) X) (F0 m pc ls [.int v]) := x_zret hx hb hr hlocks h0 hS hc hs hdg rfl hq
theorem x_aret {v : Nat} {ty : FieldType} (hx : p.tables.exec = Jvm.exec) (hb : c.code = cc) (hr : meth.sig.returnType = some ty) (hty : (∃ n, ty = FieldType.object n) ∨ ∃ t, ty = .array t) (hlocks : meth.locks = false) (h0 : s.heap = H0) (hS : va_S (gA lo hi H0.size) H0 H locs) (hc : cells ≤ mc) (hs : slots ≤ ms) (hdg : decode cc pc = .ok (.areturn, 1)) {Q : Nat → Heap → Prop} (hq : Q v H) :
    W p l e R s m args below meth c H locs cells slots (XQ below args s H0 lo hi mc ms (qR Q) X) (F0 m pc ls [.ref v]) :=
  vx_ret (W.widen (k := mc) (n := ms) hc hs (W.aret (v := .ref v) hx hb hr hty (Or.inr ⟨v, rfl⟩) (fun t ht _ => ⟨⟨_, rfl, v, rfl, by rw [ht]; exact hq⟩, x_F h0 hS ht⟩) hS.2.2 hdg hlocks))
theorem x_lret {v : Int64} (hx : p.tables.exec = Jvm.exec) (hb : c.code = cc) (hr : meth.sig.returnType = some .long) (hlocks : meth.locks = false) (h0 : s.heap = H0) (hS : va_S (gA lo hi H0.size) H0 H locs) (hc : cells ≤ mc) (hs : slots ≤ ms) (hdg : decode cc pc = .ok (.lreturn, 1)) {Q : Int64 → Heap → Prop} (hq : Q v H) :
    W p l e R s m args below meth c H locs cells slots (XQ below args s H0 lo hi mc ms (qL Q) X) (F0 m pc ls [.long v]) :=
  vx_ret (W.widen (k := mc) (n := ms) hc hs (W.lret hx hb hr (fun t ht _ => ⟨⟨_, rfl, v, rfl, by rw [ht]; exact hq⟩, x_F h0 hS ht⟩) hS.2.2 hdg hlocks))
theorem x_fret {v : UInt32} (hx : p.tables.exec = Jvm.exec) (hb : c.code = cc) (hr : meth.sig.returnType = some .float) (hlocks : meth.locks = false) (h0 : s.heap = H0) (hS : va_S (gA lo hi H0.size) H0 H locs) (hc : cells ≤ mc) (hs : slots ≤ ms) (hdg : decode cc pc = .ok (.freturn, 1)) {Q : UInt32 → Heap → Prop} (hq : Q v H) :
    W p l e R s m args below meth c H locs cells slots (XQ below args s H0 lo hi mc ms (qF Q) X) (F0 m pc ls [.float v]) :=
  vx_ret (W.widen (k := mc) (n := ms) hc hs (W.fret hx hb hr (fun t ht _ => ⟨⟨_, rfl, v, rfl, by rw [ht]; exact hq⟩, x_F h0 hS ht⟩) hS.2.2 hdg hlocks))
/-- fields -/
theorem x_get {G : gG} {a ci N index : Nat} {own C : String} {T : u_T} {Ts : List Cond} {fs : List Value} {v : Value} (hx : p.tables.exec = Jvm.exec) (hb : c.code = cc) (hts : ∀ w ∈ Ts, w.before args s = true) (hown : s.vm.findClass own = some m.cls) (hK : gK G s) (hc : vwCl[ci]? = some (C, T, N)) (hin : ∀ w ∈ u_ws C T N, w ∈ Ts) (k : Nat) (hk : k < N) (hlink : (Cond.fieldLink own index (T k).1 (T k).2.1 (T k).2.2.1).before args s = true) (hO : gO G a ci fs H) (hv : fs[k]? = some v) (hdg : decode cc pc = .ok (.getfield index, 3))
    (kk : W p l e R s m args below meth c H locs cells slots Q (F0 m (pc + 3) ls (v :: rest))) : W p l e R s m args below meth c H locs cells slots Q (F0 m pc ls (.ref a :: rest)) :=
  va_get hx hb hts hin hown hK hO.P 0 rfl hc k hk hlink (fun _ h => h) hv hdg kk
theorem x_put {G : gG} {A : Nat → Prop} {a ci N index : Nat} {own C : String} {T : u_T} {ty0 : Nat → FieldType} {Ts : List Cond} {fs : List Value} {v : Value} {ty : FieldType} (hx : p.tables.exec = Jvm.exec) (hb : c.code = cc) (hts : ∀ w ∈ Ts, w.before args s = true) (hown : s.vm.findClass own = some m.cls) (hK : gK G s) (hc : vwCl[ci]? = some (C, T, N)) (hin : ∀ w ∈ u_ws C T N, w ∈ Ts) (hty : ∀ k, k < N → parseFieldDescriptor (T k).2.2.1 = some (ty0 k)) (hnm : ∀ a, a < N → ∀ b, b < N → a ≠ b → (T a).2.1 ≠ (T b).2.1) (k : Nat) (hk : k < N) (hlink : (Cond.fieldLink own index (T k).1 (T k).2.1 (T k).2.2.1).before args s = true) (hfin : (T k).2.2.2 = false) (hd : parseFieldDescriptor (T k).2.2.1 = some ty) (hn : narrow ty v = v) (hfit : fits ty v = true) (hO : gO G a ci fs H) (hl : k < fs.length) (hS0 : va_S A H0 H locs) (hA : A a) (hdg : decode cc pc = .ok (.putfield index, 3))
    (kk : ∀ (H1 : Heap) (locs1 : List Loc), gO G a ci (fs.set k v) H1 → gF a (a + 1) H H1 → H1.size = H.size → va_S A H0 H1 locs1 → W p l e R s m args below meth c H1 locs1 cells slots Q (F0 m (pc + 3) ls rest)) : W p l e R s m args below meth c H locs cells slots Q (F0 m pc ls (v :: .ref a :: rest)) := by
  have hap := va_apart (own := own) hts hin ty0 hty hnm hK hc
  obtain ⟨r, h1, cell, q1, q2, q3, q4⟩ := hO
  have hr : r = (C, T, N) := Option.some.inj (h1.symm.trans hc)
  subst hr
  obtain ⟨hS, hfc, kC, hkC, hkind⟩ := hK.1 ci _ hc
  obtain ⟨cf, kf, fi, f, hi, hsl⟩ := hS k hk
  have hlay := hts _ (hin _ (u_in_lay hk))
  unfold u_lay at hlay
  rw [if_neg (by rw [hfin]; decide)] at hlay
  have hst := (u_facts hfc hkC (u_lays hts hin hk) hi).1
  have h6 := u_store hfc hkC hkind hlay hi hd hn hfit
  refine W.putK hx hb (f := f) ⟨hown, hlink, ⟨_, _, _, hi⟩, hst⟩ (by rw [q2]; exact h6) q1 q3 (by rw [hsl]; exact k2_hasslot (q4 k hk)) rfl rfl hdg fun H' e1 e2 e3 => ?_
  rw [hsl] at e1 ⊢
  exact kk H' _ ⟨_, hc, t_OB.to (V := updV (vp_V fs) k v) ⟨_, e1, q2, q3, t_set q4 hap hk v⟩ (fun j _ => vp_updV_set hl v j)⟩ ⟨by rw [e2]; exact Nat.le_refl _, fun q _ hq => e3 q (show @Ne Nat q a by omega)⟩ e2 (hS0.put e2 e3 hA)
theorem x_putF {G : gG} {A : Nat → Prop} {a ci N index : Nat} {own C : String} {T : u_T} {ty0 : Nat → FieldType} {Ts : List Cond} {fs : List Value} {v : Value} {ty : FieldType} (hx : p.tables.exec = Jvm.exec) (hb : c.code = cc) (hts : ∀ w ∈ Ts, w.before args s = true) (hown : s.vm.findClass own = some m.cls) (hK : gK G s) (hc : vwCl[ci]? = some (C, T, N)) (hin : ∀ w ∈ u_ws C T N, w ∈ Ts) (hty : ∀ k, k < N → parseFieldDescriptor (T k).2.2.1 = some (ty0 k)) (hnm : ∀ a, a < N → ∀ b, b < N → a ≠ b → (T a).2.1 ≠ (T b).2.1) (k : Nat) (hk : k < N) (hlink : (Cond.fieldLink own index (T k).1 (T k).2.1 (T k).2.2.1).before args s = true) (hfin : (T k).2.2.2 = true) (hin2 : meth.name = "<init>") (hdecl : (T k).1 = own) (hd : parseFieldDescriptor (T k).2.2.1 = some ty) (hn : narrow ty v = v) (hfit : fits ty v = true) (hO : gO G a ci fs H) (hl : k < fs.length) (hS0 : va_S A H0 H locs) (hA : A a) (hdg : decode cc pc = .ok (.putfield index, 3))
    (kk : ∀ (H1 : Heap) (locs1 : List Loc), gO G a ci (fs.set k v) H1 → gF a (a + 1) H H1 → H1.size = H.size → va_S A H0 H1 locs1 → W p l e R s m args below meth c H1 locs1 cells slots Q (F0 m (pc + 3) ls rest)) : W p l e R s m args below meth c H locs cells slots Q (F0 m pc ls (v :: .ref a :: rest)) := by
  have hap := va_apart (own := own) hts hin ty0 hty hnm hK hc
  obtain ⟨r, h1, cell, q1, q2, q3, q4⟩ := hO
  have hr : r = (C, T, N) := Option.some.inj (h1.symm.trans hc)
  subst hr
  obtain ⟨hS, hfc, kC, hkC, hkind⟩ := hK.1 ci _ hc
  obtain ⟨cf, kf, fi, f, hi, hsl⟩ := hS k hk
  have hlay := hts _ (hin _ (u_in_lay hk))
  unfold u_lay at hlay
  rw [if_pos hfin] at hlay
  have hst := (u_facts hfc hkC (u_lays hts hin hk) hi).1
  have hcf : m.cls = cf := by
    obtain ⟨_, _, c', _, _, _, -, -, hf', -, -, -, hown2, -⟩ := Cond.laysFinal_spec hlay
    have e1 : c' = cf := by have := hi.symm.trans hf'; simp at this; exact this.1.symm
    rw [hdecl] at hown2
    rw [← e1]; exact Option.some.inj (hown.symm.trans hown2)
  have h6 := u_fits hfc hkC hkind (Or.inr hlay) hi hd hn hfit
  refine W.putFinK hx hb hown hlink hi hst hcf hin2 (by rw [q2]; exact h6) q1 q3 (by rw [hsl]; exact k2_hasslot (q4 k hk)) rfl rfl hdg fun H' e1 e2 e3 => ?_
  rw [hsl] at e1 ⊢
  exact kk H' _ ⟨_, hc, t_OB.to (V := updV (vp_V fs) k v) ⟨_, e1, q2, q3, t_set q4 hap hk v⟩ (fun j _ => vp_updV_set hl v j)⟩ ⟨by rw [e2]; exact Nat.le_refl _, fun q _ hq => e3 q (show @Ne Nat q a by omega)⟩ e2 (hS0.put e2 e3 hA)
/-- arrays; the index is a number -/
theorem x_iald {G : gG} {a n i : Nat} {f : Nat → Int32} (hx : p.tables.exec = Jvm.exec) (hb : c.code = cc) (hK : gK G s) (hC : gI G a 1 n f H) (hi : i < n) (hn : n < 2147483648) (hdg : decode cc pc = .ok (.iaload, 1))
    (kk : W p l e R s m args below meth c H locs cells slots Q (F0 m (pc + 1) ls (.int (f i) :: rest))) : W p l e R s m args below meth c H locs cells slots Q (F0 m pc ls (.int (nI i) :: .ref a :: rest)) := by
  refine va_iald hx hb hK hC.P 0 1 rfl (gTys_at (by decide)) (vp_in_nI hi hn) hdg ?_
  rw [nI_clamp (by omega)]
  exact kk
theorem x_cald {G : gG} {a n i : Nat} {f : Nat → Int32} (hx : p.tables.exec = Jvm.exec) (hb : c.code = cc) (hK : gK G s) (hC : gI G a 0 n f H) (hi : i < n) (hn : n < 2147483648) (hdg : decode cc pc = .ok (.caload, 1))
    (kk : W p l e R s m args below meth c H locs cells slots Q (F0 m (pc + 1) ls (.int (f i) :: rest))) : W p l e R s m args below meth c H locs cells slots Q (F0 m pc ls (.int (nI i) :: .ref a :: rest)) := by
  refine va_cald hx hb hK hC.P 0 0 rfl (gTys_at (by decide)) (vp_in_nI hi hn) hdg ?_
  rw [nI_clamp (by omega)]
  exact kk
theorem x_lald {G : gG} {a n i : Nat} {f : Nat → Int64} (hx : p.tables.exec = Jvm.exec) (hb : c.code = cc) (hK : gK G s) (hC : gJ G a 6 n f H) (hi : i < n) (hn : n < 2147483648) (hdg : decode cc pc = .ok (.laload, 1))
    (kk : W p l e R s m args below meth c H locs cells slots Q (F0 m (pc + 1) ls (.long (f i) :: rest))) : W p l e R s m args below meth c H locs cells slots Q (F0 m pc ls (.int (nI i) :: .ref a :: rest)) := by
  refine va_lald hx hb hK hC.P 0 6 rfl (gTys_at (by decide)) (vp_in_nI hi hn) hdg ?_
  rw [nI_clamp (by omega)]
  exact kk
theorem gTy_arr {G : gG} {k : Nat} (hk : k < 7) (hK : gK G s) : ArrOfT s (G.2.1 k) (gTy k) := (hK.2 k _ (gTys_at hk)).1
/-- a reference out of an array of references (k: the array's kind) -/
theorem x_aald {G : gG} {a n i k v : Nat} {f : Nat → Option Nat} (hx : p.tables.exec = Jvm.exec) (hb : c.code = cc) (hK : gK G s) (hk : k < 7) (hty : (gTy k).isReference = true) (hC : gQ G a k n f H) (hi : i < n) (hn : n < 2147483648) (hv : f i = some v) (hdg : decode cc pc = .ok (.aaload, 1))
    (kk : W p l e R s m args below meth c H locs cells slots Q (F0 m (pc + 1) ls (.ref v :: rest))) : W p l e R s m args below meth c H locs cells slots Q (F0 m pc ls (.int (nI i) :: .ref a :: rest)) := by
  have hin : vp_in (nI i) n := vp_in_nI hi hn
  exact W.aald (v := .ref v) (ty := gTy k) hx hb hC (gTy_arr hk hK n (fun j => va_rf (f j))) hty (fun q => by cases q) (by show ¬ (_ ∨ (arrV _ _ _).slots.size ≤ _); rw [arrV_size]; exact hin) (by show (arrV _ _ _).slots[_]? = _; rw [nI_clamp (by omega), arrV_read _ _ hi, hv]; rfl) rfl rfl hdg kk
theorem x_iast {G : gG} {A : Nat → Prop} {a n i : Nat} {f : Nat → Int32} {x : Int32} (hx : p.tables.exec = Jvm.exec) (hb : c.code = cc) (hK : gK G s) (hC : gI G a 1 n f H) (hi : i < n) (hn : n < 2147483648) (hS0 : va_S A H0 H locs) (hA : A a) (hdg : decode cc pc = .ok (.iastore, 1))
    (kk : ∀ (H1 : Heap) (locs1 : List Loc), gI G a 1 n (upd f i x) H1 → gF a (a + 1) H H1 → H1.size = H.size → va_S A H0 H1 locs1 → W p l e R s m args below meth c H1 locs1 cells slots Q (F0 m (pc + 1) ls rest)) : W p l e R s m args below meth c H locs cells slots Q (F0 m pc ls (.int x :: .int (nI i) :: .ref a :: rest)) := by
  have hin : vp_in (nI i) n := vp_in_nI hi hn
  refine W.iast hx hb hC (gTy_arr (k := 1) (by decide) hK n (fun j => .int (f j))) (fun q => by cases q) (by show ¬ (_ ∨ (arrV _ _ _).slots.size ≤ _); rw [arrV_size]; exact hin) rfl rfl hdg fun H1 e z oq => ?_
  refine kk H1 _ ?_ ⟨by rw [z]; exact Nat.le_refl _, fun q _ hq => oq q (show @Ne Nat q a by omega)⟩ z (hS0.put z oq hA)
  show H1[a]? = some (vp_cell _ _)
  rw [e, nI_clamp (by omega)]
  show some ((vp_cell _ _).setSlot _ _) = _
  rw [vp_cell_i, vp_cell_i, arrV_store]
  congr 2
  funext q
  by_cases hq : q = i
  · subst hq
    simp [updV, upd]
  · simp [updV, upd, hq]
theorem x_cast {G : gG} {A : Nat → Prop} {a n i x : Nat} {f : Nat → Int32} (hx : p.tables.exec = Jvm.exec) (hb : c.code = cc) (hK : gK G s) (hC : gI G a 0 n f H) (hi : i < n) (hn : n < 2147483648) (hch : x < 65536) (hS0 : va_S A H0 H locs) (hA : A a) (hdg : decode cc pc = .ok (.castore, 1))
    (kk : ∀ (H1 : Heap) (locs1 : List Loc), gI G a 0 n (upd f i (nI x)) H1 → gF a (a + 1) H H1 → H1.size = H.size → va_S A H0 H1 locs1 → W p l e R s m args below meth c H1 locs1 cells slots Q (F0 m (pc + 1) ls rest)) : W p l e R s m args below meth c H locs cells slots Q (F0 m pc ls (.int (nI x) :: .int (nI i) :: .ref a :: rest)) := by
  have hin : vp_in (nI i) n := vp_in_nI hi hn
  refine W.cast hx hb hC (gTy_arr (k := 0) (by decide) hK n (fun j => .int (f j))) (fun q => by cases q) (by show ¬ (_ ∨ (arrV _ _ _).slots.size ≤ _); rw [arrV_size]; exact hin) rfl rfl hdg fun H1 e z oq => ?_
  refine kk H1 _ ?_ ⟨by rw [z]; exact Nat.le_refl _, fun q _ hq => oq q (show @Ne Nat q a by omega)⟩ z (hS0.put z oq hA)
  show H1[a]? = some (vp_cell _ _)
  rw [e, nI_clamp (by omega), (pk_charN hch).1]
  show some ((vp_cell _ _).setSlot _ _) = _
  rw [vp_cell_i, vp_cell_i, arrV_store]
  congr 2
  funext q
  by_cases hq : q = i
  · subst hq
    simp [updV, upd]
  · simp [updV, upd, hq]
theorem x_last {G : gG} {A : Nat → Prop} {a n i : Nat} {f : Nat → Int64} {x : Int64} (hx : p.tables.exec = Jvm.exec) (hb : c.code = cc) (hK : gK G s) (hC : gJ G a 6 n f H) (hi : i < n) (hn : n < 2147483648) (hS0 : va_S A H0 H locs) (hA : A a) (hdg : decode cc pc = .ok (.lastore, 1))
    (kk : ∀ (H1 : Heap) (locs1 : List Loc), gJ G a 6 n (vp_updL f i x) H1 → gF a (a + 1) H H1 → H1.size = H.size → va_S A H0 H1 locs1 → W p l e R s m args below meth c H1 locs1 cells slots Q (F0 m (pc + 1) ls rest)) : W p l e R s m args below meth c H locs cells slots Q (F0 m pc ls (.long x :: .int (nI i) :: .ref a :: rest)) := by
  have hin : vp_in (nI i) n := vp_in_nI hi hn
  refine W.last hx hb hC (gTy_arr (k := 6) (by decide) hK n (fun j => .long (f j))) (fun q => by cases q) (by show ¬ (_ ∨ (arrV _ _ _).slots.size ≤ _); rw [arrV_size]; exact hin) rfl rfl hdg fun H1 e z oq => ?_
  refine kk H1 _ ?_ ⟨by rw [z]; exact Nat.le_refl _, fun q _ hq => oq q (show @Ne Nat q a by omega)⟩ z (hS0.put z oq hA)
  show H1[a]? = some (vp_cell _ _)
  rw [e, nI_clamp (by omega)]
  show some ((vp_cell _ _).setSlot _ _) = _
  rw [vp_cell_l, vp_cell_l, arrV_store]
  congr 2
  funext q
  by_cases hq : q = i
  · subst hq
    simp [updV, vp_updL]
  · simp [updV, vp_updL, hq]
end GB
