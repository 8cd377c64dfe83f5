/-! ===== a method of the class throws ===== -/
abbrev xIA : String := "java/lang/IllegalArgumentException"
abbrev xIS : String := "java/lang/IllegalStateException"
abbrev xIO : String := "java/lang/IndexOutOfBoundsException"
abbrev xNs : List String := ["java/lang/RuntimeException", "java/lang/Exception"]
theorem gB_ot : gB.all vx_ot = true := by decide +kernel
theorem ot_IA : (Cond.classLink RX2 73 xIA :: Cond.initialized xIA :: vx_atS RX2 77 xIA xNs).all vx_ot = true := by decide +kernel
theorem ot_IS : (Cond.classLink RX2 160 xIS :: Cond.initialized xIS :: vx_atS RX2 164 xIS xNs).all vx_ot = true := by decide +kernel
theorem ot_IO : (Cond.classLink RX2 126 xIO :: Cond.initialized xIO :: vx_atS RX2 130 xIO xNs).all vx_ot = true := by decide +kernel
theorem nb_IA : ∀ w ∈ (vx_atS RX2 77 xIA xNs).filter (fun w => !goodWord w), w ∈ gB := fun w h => List.mem_append_left _ (by
  rw [List.filter_append, List.filter_append]
  exact List.mem_append_left _ (List.mem_append_left _ h))
theorem nb_IS : ∀ w ∈ (vx_atS RX2 164 xIS xNs).filter (fun w => !goodWord w), w ∈ gB := fun w h => List.mem_append_left _ (by
  rw [List.filter_append, List.filter_append]
  exact List.mem_append_left _ (List.mem_append_right _ h))
theorem nb_IO : ∀ w ∈ (vx_atS RX2 130 xIO xNs).filter (fun w => !goodWord w), w ∈ gB := fun w h => List.mem_append_left _ (by
  rw [List.filter_append, List.filter_append]
  exact List.mem_append_right _ h)
section GT
variable {p : Program} {l : Launch} {e : Env} {R : Room} {s : State} {m : MethodId} {args : Array Value} {below : List Frame} {meth : Method} {c : Code} {H : Heap} {locs : List Loc} {cells slots : Nat}
variable {cc : ByteArray} {pc : Nat} {ls : Array Slot} {rest : List Value} {H0 : Heap} {lo hi mc ms : Nat} {Qv : Option Value → Heap → Prop} {X : String → Heap → Prop} {G : gG}
theorem x_throw {cls text : String} {ik is ic : Nat} (hx : p.tables.exec = Jvm.exec) (hb : c.code = cc) (hE : gE l G lo hi s) (h0 : s.heap = H0) (hS : va_S (gA lo hi H0.size) H0 H locs) (hown : s.vm.findClass RX2 = some m.cls) (hlocks : meth.locks = false) (hout : ∀ x ∈ c.exceptionTable.toList, False) (hsz : ls.size = c.maxLocals) (hfit : Bundle.fit cls = true)
    (hk : (Cond.classLink RX2 ik cls).before args s = true) (hini : (Cond.initialized cls).before args s = true) (hot : (Cond.classLink RX2 ik cls :: Cond.initialized cls :: vx_atS RX2 ic cls xNs).all vx_ot = true) (hst : (RX2, is, text) ∈ gStrs) (hnb : ∀ w ∈ (vx_atS RX2 ic cls xNs).filter (fun w => !goodWord w), w ∈ gB) (hgw : ∀ w ∈ (vx_atS RX2 ic cls xNs).filter goodWord, w.before args s = true)
    (d0 : decode cc pc = .ok (.new ik, 3)) (d3 : decode cc (pc + 3) = .ok (.dup, 1)) (d4 : decode cc (pc + 4) = .ok (.ldc is, 2)) (d6 : decode cc (pc + 6) = .ok (.invokespecial ic, 3)) (d9 : decode cc (pc + 9) = .ok (.athrow, 1))
    (hRf : 5 < R.frames) (hRl : (rest.map fun v => v.category).sum + 82 ≤ R.locals) (hRc : cells + 1 ≤ R.cells) (hRs : slots + 6 ≤ R.slots) (hc : cells + 1 ≤ mc) (hs : slots + 6 ≤ ms) (hX : ∀ H1 : Heap, gF 0 0 H H1 → X cls H1) :
    W p l e R s m args below meth c H locs cells slots (XQ below args s H0 lo hi mc ms Qv X) (F0 m pc ls rest) := by
  obtain ⟨sa, hsa⟩ := hE.2.1.2.2.2.1 _ hst
  have hA : ∀ q, gA lo hi H0.size q → (fun q => G.2.2 ≤ q) q := by
    intro q hq
    show G.2.2 ≤ q
    have h1 := hE.2.2.1
    have h2 := hE.2.2.2
    rw [h0] at h1
    unfold gA at hq
    omega
  subst h0
  have hU := vx_Zq.narrow hE.2.1.2.1 hA
  have hN := vx_Zq.narrow hE.2.1.2.2.1 hA
  refine vx_throwS (sa := sa) (names := xNs) hx hb hE.2.1.1 hown hfit (by decide) hk hini hsa (vx_hat hgw hnb (fun w hw => vx_ot_at (State.WarmedH.refl s) rfl (List.all_eq_true.mp gB_ot w hw) (hE.2.1.2.2.2.2.1 w hw))) (fun w hw => List.all_eq_true.mp hot w hw) hU hN hS hsz d0 d3 d4 d6 d9 (fun x hx => (hout x hx).elim) hRf (by simpa using hRl) hRc hRs hlocks ?_ hS.2.2 hc hs
  intro t _ hz hk
  refine ⟨hX _ ⟨hz, fun q h1 _ => hk q h1⟩, Nat.le_trans hS.1 hz, fun q h1 h2 => ?_⟩
  rw [hk q (Nat.lt_of_lt_of_le h1 hS.1)]
  exact hS.2.1 q h1 h2
theorem x_getN {a ci N index : Nat} {own C : String} {T : u_T} {Ts : List Cond} {fs : List Value} {v : Value} {host : String} {Q : State → Prop} (hx : p.tables.exec = Jvm.exec) (hb : c.code = cc) (hts : ∀ w ∈ Ts, w.before args s = true) (hown : s.vm.findClass own = some m.cls) (hK : gK G s) (hc : vwCl[ci]? = some (C, T, N)) (hin : ∀ w ∈ u_ws C T N, w ∈ Ts) (k : Nat) (hk : k < N) (hlink : va_Nw (.fieldLinkNest own index (T k).1 (T k).2.1 (T k).2.2.1 host) s) (hO : gO G a ci fs H) (hv : fs[k]? = some v) (hdg : decode cc pc = .ok (.getfield index, 3))
    (kk : W p l e R s m args below meth c H locs cells slots Q (F0 m (pc + 3) ls (v :: rest))) : W p l e R s m args below meth c H locs cells slots Q (F0 m pc ls (.ref a :: rest)) :=
  va_getN hx hb hts hin hown hK hO.P 0 rfl hc k hk (va_Nw.use rfl hlink) (fun _ h => h) hv hdg kk
theorem x_rwr {x z : Nat} {Q : State → Prop} (h : x = z) (k : W p l e R s m args below meth c H locs cells slots Q (F0 m pc ls (.ref z :: rest))) : W p l e R s m args below meth c H locs cells slots Q (F0 m pc ls (.ref x :: rest)) := by rw [h]; exact k
end GT
def ix (x : Int32) : Nat := x.toNatClampNeg
theorem ix_N {i : Nat} (h : i < 2147483648) : ix (nI i) = i := nI_clamp h
/-- an int is one of 0 .. n - 1 -/
def okN (n : Nat) (x : Int32) : Prop := ∃ i : Nat, i < n ∧ x = nI i
theorem okN_iff {x : Int32} {n : Nat} (hn : n < 2147483648) : okN n x ↔ ¬ x < 0 ∧ x < nI n := by
  constructor
  · rintro ⟨i, hi, rfl⟩
    exact ⟨nI_pos (by omega), nI_lt hi hn⟩
  · rintro ⟨h1, h2⟩
    obtain ⟨j, hj, rfl⟩ := nI_of h1
    exact ⟨j, (nI_ltI hj hn).mp h2, rfl⟩
