/-! ===== what the constructors make ===== -/
section NM2
variable {p : Program} {l : Launch} {e : Env} {R : Room} {s : State} {m : MethodId} {args : Array Value} {below : List Frame} {meth : Method} {c : Code} {H : Heap} {locs : List Loc} {cells slots : Nat} {Q : State → Prop}
variable {cc : ByteArray} {pc : Nat} {ls : Array Slot} {rest : List Value} {H0 : Heap} {G : gG} {lo hi : Nat}
/-- a new array of objects of a class, without any -/
theorem x_newQO {k n index : Nat} {own C : String} (hx : p.tables.exec = Jvm.exec) (hb : c.code = cc) (hown : s.vm.findClass own = some m.cls) (hclink : (Cond.classLink own index C).before args s = true) (hover : va_AO C s) (hty : gTy k = .object C) (hk7 : k < 7) (hK : gK G s) (hS : va_S (gA lo hi H0.size) H0 H locs)
    (hn : n ≤ 100) (hcells : cells + 1 ≤ R.cells) (hslots : slots + n ≤ R.slots) (hdg : decode cc pc = .ok (.anewarray index, 3))
    (kk : ∀ (z : Nat) (H1 : Heap), H.size = z → H0.size ≤ z → gQ G z k n (fun _ => none) H1 → gF 0 0 H H1 → H1.size = z + 1 → va_S (gA lo hi H0.size) H0 H1 locs → W p l e R s m args below meth c H1 locs (cells + 1) (slots + n) Q (F0 m (pc + 3) ls (.ref z :: rest))) : W p l e R s m args below meth c H locs cells slots Q (F0 m pc ls (.int (nI n) :: rest)) := by
  have e : (nI n).toNatClampNeg = n := nI_clamp (by omega)
  refine W.anew (C := C) hx hb hown hclink (va_AO.use hover) rfl hdg rfl (nI_pos (by omega)) (by rw [e]; omega) hcells (by rw [e]; exact hslots) fun cA kA comp f1 f2 f3 f4 => ?_
  rw [e]
  have g1 := (hK.2 k _ (gTys_at hk7)).2
  rw [hty] at g1
  obtain ⟨kA', comp', q1, q2, q3, q4⟩ := g1
  have hc : cA = G.2.1 k := Option.some.inj (f1.symm.trans q4)
  generalize hH1 : H.push ({ cls := cA, slots := Array.replicate n .null, vm := .none } : Cell) = H1
  have z1 : H1.size = H.size + 1 := by rw [← hH1, Array.size_push]
  have e1 : H1[H.size]? = some (arrV cA n (fun _ => .null)) := by rw [← hH1, Array.getElem?_push_size, ← arrV_new]
  have o1 : ∀ q : Nat, q < H.size → H1[q]? = H[q]? := fun q hq => by rw [← hH1, Array.getElem?_push, if_neg (Nat.ne_of_lt hq)]
  subst hc
  refine kk H.size H1 rfl hS.1 ?_ ⟨by omega, fun q hq _ => o1 q hq⟩ z1 ⟨Nat.le_trans hS.1 (by omega), fun x h1 h2 => (o1 x (Nat.lt_of_lt_of_le h1 hS.1)).trans (hS.2.1 x h1 h2), hS.2.2⟩
  show H1[H.size]? = some (vp_cell _ _)
  rw [vp_cell_q]
  exact e1
/-- a new object, its fields as they begin -/
theorem x_newO {ci N index : Nat} {own C : String} {T : u_T} {Ts : List Cond} {fs : List Value} (hx : p.tables.exec = Jvm.exec) (hb : c.code = cc) (hts : ∀ w ∈ Ts, w.before args s = true) (hown : s.vm.findClass own = some m.cls) (hcl : (Cond.classLink own index C).before args s = true) (hinst : (Cond.instantiable C N).before args s = true) (hini : (Cond.initialized C).before args s = true)
    (hK : gK G s) (hc : vwCl[ci]? = some (C, T, N)) (hin : ∀ w ∈ u_ws C T N, w ∈ Ts) (ty : Nat → FieldType) (hty : ∀ k, k < N → parseFieldDescriptor (T k).2.2.1 = some (ty k)) (hfs : ∀ j, j < N → defaultValue (ty j) = vp_V fs j) (hS : va_S (gA lo hi H0.size) H0 H locs) (hcells : cells + 1 ≤ R.cells) (hslots : slots + N ≤ R.slots) (hdg : decode cc pc = .ok (.new index, 3))
    (kk : ∀ (z : Nat) (H1 : Heap), H.size = z → H0.size ≤ z → gO G z ci fs H1 → gF 0 0 H H1 → H1.size = z + 1 → va_S (gA lo hi H0.size) H0 H1 locs → W p l e R s m args below meth c H1 locs (cells + 1) (slots + N) Q (F0 m (pc + 3) ls (.ref z :: rest))) : W p l e R s m args below meth c H locs cells slots Q (F0 m pc ls rest) := by
  have hKn := hK.1 ci _ hc
  refine W.newcK hx hb hown hcl hinst hini rfl hdg hcells hslots hKn.2.1 rfl fun H1 kC hkC e1 z1 o1 => ?_
  exact kk H.size H1 rfl hS.1 ⟨_, hc, (u_born ty hts hin hKn hkC e1 hty).to hfs⟩ ⟨by omega, fun q hq _ => o1 q hq⟩ z1 ⟨Nat.le_trans hS.1 (by omega), fun x h1 h2 => (o1 x (Nat.lt_of_lt_of_le h1 hS.1)).trans (hS.2.1 x h1 h2), hS.2.2⟩
theorem x_objInit {own : String} {index a : Nat} (hx : p.tables.exec = Jvm.exec) (hb : c.code = cc) (hml : c.maxLocals = ls.size) (hown : s.vm.findClass own = some m.cls) (hlink : (Cond.methodLink own index Lib.objectInit).before args s = true) (hinst : (Cond.instanceMethod Lib.objectInit).before args s = true) (hcode : (Cond.code Lib.objectInit ⟨#[0xb1]⟩ 1 none).before args s = true)
    (hdg : decode cc pc = .ok (.invokespecial index, 3)) (hf : 1 ≤ R.frames) (hl : (rest.map fun v => v.category).sum + 12 ≤ R.locals)
    (kk : W p l e R s m args below meth c H locs cells slots Q (F0 m (pc + 3) ls rest)) : W p l e R s m args below meth c H locs cells slots Q (F0 m pc ls (.ref a :: rest)) :=
  W.objInit (g := F0 m pc ls (.ref a :: rest)) hx hb hown hlink hinst hcode rfl hml.symm rfl hdg hf (by show 2 * 0 + _ + 12 ≤ _; omega) kk
end NM2
/-! ===== the state as it is made ===== -/
/-- the versions that are made: the spare one, and those of the first i slots -/
def VRs (G : gG) (b i : Nat) (H : Heap) : Prop := ∀ k, k < i + 1 → VR G (vk b k) [48] (tk [48]) H
theorem VRs.fr {G : gG} {b i lo hi : Nat} {H H1 : Heap} (h : VRs G b i H) (f : gF lo hi H H1) (hd : b + 7 + 12 * (i + 1) ≤ lo ∨ hi ≤ b + 7 ∨ hi ≤ lo) : VRs G b i H1 := by
  intro k hk
  rcases hd with hd | hd | hd
  · exact (h k hk).fr f (by unfold vk; omega)
  · exact (h k hk).fr f (by unfold vk; omega)
  · exact (h k hk).fr (f.widen (lo := 0) (hi := 0) (by omega)) (by omega)
theorem VRs.add {G : gG} {b i : Nat} {H : Heap} (h : VRs G b i H) (h2 : VR G (vk b (i + 1)) [48] (tk [48]) H) : VRs G b (i + 1) H := by
  intro k hk
  by_cases e : k = i + 1
  · rw [e]; exact h2
  · exact h k (by omega)
theorem VRs.lt {G : gG} {b i : Nat} {H : Heap} (h : VRs G b i H) : b + 7 + 12 * (i + 1) ≤ H.size := by
  have := (h i (by omega)).vo.lt
  unfold vk at this
  omega
theorem Gt_0 : Gt [48] := by
  have h := Gt_begin (n := 0) (z := 0) (by decide) (by decide)
  unfold num at h
  rw [dg_small (by decide)] at h
  exact h
/-- the reference as it is made -/
def MI (G : gG) (y : Nat) (H : Heap) : Prop := MO G y (nI 0) (nI 0) H ∧ TA G (y + 1) [] H ∧ (∃ f2 : Nat → Option Nat, gQ G (y + 2) 4 8 f2 H ∧ ∀ i, i < 8 → f2 i = some (y + 3 + i)) ∧ (∃ f11 : Nat → Int32, gI G (y + 11) 1 8 f11 H ∧ ∀ i, i < 8 → f11 i = nI 1) ∧ (∀ i, i < 8 → TA G (y + 3 + i) [48] H) ∧ LA G y (fun _ => none) H
theorem MI.W {G : gG} {y : Nat} {H H1 : Heap} (h : MI G y H) (f : gF 0 0 H H1) (hy : y + 34 < H1.size) : MW G y [] (fun _ => [48]) 0 H1 := by
  obtain ⟨h1, h2, ⟨f2, h3, h3b⟩, ⟨f11, h4, h4b⟩, h5, h6⟩ := h
  refine ⟨fun i => y + 3 + i, fun _ => none, ⟨h1.fr f (by omega), h2.fr f (by omega), ⟨f2, h3.fr f (by omega), h3b⟩, ⟨f11, h4.fr f (by omega), h4b⟩, fun i hi => ⟨(h5 i hi).fr f (by omega), Gt_0, Or.inl ⟨by show y + 3 ≤ y + 3 + i; omega, by show y + 3 + i < y + 11; omega⟩, by show y + 3 + i < H1.size; omega⟩, Or.inl rfl, hy, Nat.le_refl _⟩, h6.fr f (by omega)⟩
/-- two arrays of three rows -/
def Grd (G : gG) (z : Nat) (H : Heap) : Prop := gQ G z 5 2 (rwk (z + 1) 4 2) H ∧ (∀ s, s < 2 → gQ G (z + 1 + 4 * s) 3 3 (rw3 (z + 2 + 4 * s)) H) ∧ ∀ s r, s < 2 → r < 3 → gI G (z + 2 + 4 * s + r) 1 60 (fun _ => nI 0) H
theorem Grd.of {G : gG} {z : Nat} {H : Heap} (h1 : gQ G z 5 2 (fun i => if i < 2 then some (z + 1 + (1 + 3) * i) else none) H) (h2 : ∀ i, i < 2 → gQ G (z + 1 + (1 + 3) * i) 3 3 (fun r => if r < 3 then some (z + 1 + (1 + 3) * i + 1 + r) else none) H) (h3 : ∀ i r, i < 2 → r < 3 → gI G (z + 1 + (1 + 3) * i + 1 + r) 1 60 (fun _ => nI 0) H) : Grd G z H := by
  refine ⟨h1, fun s hs => ?_, fun s r hs hr => ?_⟩
  · have h := h2 s hs
    rw [show z + 1 + (1 + 3) * s + 1 = z + 2 + 4 * s by omega, show z + 1 + (1 + 3) * s = z + 1 + 4 * s by omega] at h
    exact h
  · have h := h3 s r hs hr
    rw [show z + 1 + (1 + 3) * s + 1 = z + 2 + 4 * s by omega] at h
    exact h
theorem Grd.fr {G : gG} {z lo hi : Nat} {H H1 : Heap} (h : Grd G z H) (f : gF lo hi H H1) (hd : hi ≤ z ∨ z + 9 ≤ lo ∨ hi ≤ lo) : Grd G z H1 := by
  have f2 : ∃ lo2 hi2, gF lo2 hi2 H H1 ∧ (hi2 ≤ z ∨ z + 9 ≤ lo2) := by
    rcases hd with hd | hd | hd
    · exact ⟨lo, hi, f, Or.inl hd⟩
    · exact ⟨lo, hi, f, Or.inr hd⟩
    · exact ⟨0, 0, f.widen (by omega), Or.inl (Nat.zero_le _)⟩
  obtain ⟨lo2, hi2, f, hd⟩ := f2
  exact ⟨h.1.fr f (by omega), fun s hs => (h.2.1 s hs).fr f (by omega), fun s r hs hr => (h.2.2 s r hs hr).fr f (by omega)⟩
/-- the rows of the texts: the first i are told -/
def TXs (G : gG) (y i : Nat) (H : Heap) : Prop := (∀ k, k < i → TA G (y + 3 + k) [48] H) ∧ ∀ k, i ≤ k → k < 8 → gI G (y + 3 + k) 0 60 (fun _ => nI 0) H
theorem TXs.fr {G : gG} {y i lo hi : Nat} {H H1 : Heap} (h : TXs G y i H) (f : gF lo hi H H1) (hi8 : i ≤ 8) (hd : hi ≤ y + 3 ∨ y + 11 ≤ lo) : TXs G y i H1 := ⟨fun k hk => (h.1 k hk).fr f (by omega), fun k h1 h2 => (h.2 k h1 h2).fr f (by omega)⟩
theorem TXs.step {G : gG} {y i : Nat} {H H1 : Heap} (h : TXs G y i H) (f : gF (y + 2 + 1 + i) (y + 2 + 1 + i + 1) H H1) (hr : gI G (y + 2 + 1 + i) 0 60 (upd (fun _ => nI 0) 0 (nI 48)) H1) : TXs G y (i + 1) H1 := by
  refine ⟨fun k hk => ?_, fun k h1 h2 => (h.2 k (by omega) h2).fr f (by omega)⟩
  by_cases e : k = i
  · subst e
    refine ⟨_, hr, fun j hj => ?_, by decide, fun c hc => by rw [List.mem_singleton.mp hc]; decide⟩
    have : j = 0 := Nat.lt_one_iff.mp hj
    subst this
    rfl
  · exact (h.1 k (by omega)).fr f (by omega)
theorem rwk_1 (b n : Nat) : (fun i => if i < n then some (b + i) else none) = rwk b 1 n := by
  funext i
  unfold rwk
  rw [Nat.one_mul]
/-- the words of the reference's constructor, the three-fold array's among them -/
def wsX3_ini : List Cond := .code yX3_init cX3_init 2 none :: (.classLink RX3 31 "[[[I" :: wsX3_init.tail)
