/-! ===== calls by such contracts; branches over numbers ===== -/
def bI (b : Bool) : Int32 := match b with
  | true => 1
  | false => 0
theorem z_eq {a : Nat} (ha : a < 2147483648) : nI a = 0 ↔ a = 0 := by
  have h := nI_eq (a := a) (b := 0) ha (by decide)
  rw [nI_0] at h
  exact h
theorem z_le {a : Nat} (ha : a < 2147483648) : nI a ≤ 0 ↔ a = 0 := by
  have h := nI_leI (a := a) (b := 0) ha (by decide)
  rw [nI_0] at h
  rw [h]
  omega
theorem z_lt {a : Nat} (ha : a < 2147483648) : 0 < nI a ↔ 0 < a := by
  have h := nI_ltI (a := 0) (b := a) (by decide) ha
  rw [nI_0] at h
  exact h
section GC
variable {p : Program} {l : Launch} {e : Env} {R : Room} {s : State} {m : MethodId} {args : Array Value} {below : List Frame} {meth : Method} {c : Code} {H : Heap} {locs : List Loc} {cells slots : Nat} {Q : State → Prop}
variable {cc : ByteArray} {pc : Nat} {ls : Array Slot} {rest : List Value} {H0 : Heap} {lo hi lo1 hi1 mc ms mc1 ms1 : Nat} {Q1 : Option Value → Heap → Prop} {X1 : String → Heap → Prop} {G : gG}
theorem x_old (hE : gE l G lo hi s) (h0 : s.heap = H0) (hS : va_S (gA lo hi H0.size) H0 H locs) : ∀ a : Nat, a < H0.size → a < G.2.2 → H[a]? = H0[a]? := by
  intro a h1 h2
  refine hS.2.1 a h1 (fun h => ?_)
  rcases h with ⟨h3, h4⟩ | h3
  · have := hE.2.2.2 (by omega)
    omega
  · omega
theorem x_pre (hE : gE l G lo hi s) (h0 : s.heap = H0) (hS : va_S (gA lo hi H0.size) H0 H locs) (hsub : (lo ≤ lo1 ∧ hi1 ≤ hi) ∨ hi1 ≤ lo1 ∨ H0.size ≤ lo1) : ∀ U : State, U.heap = H → s.WarmedH U.vm → gE l G lo1 hi1 U := by
  intro U hU hW
  refine ⟨va_K.moved hW.alike hE.1, ?_, ?_, fun h => ?_⟩
  · rw [hU]
    refine gZ.moved hW (x_old hE h0 hS) ?_
    rw [← h0]
    exact hE.2.1
  · rw [hU]
    have h1 := hE.2.2.1
    rw [h0] at h1
    exact Nat.le_trans h1 hS.1
  · have h1 := hE.2.2.1
    rw [h0] at h1
    rcases hsub with h2 | h2 | h2
    · have := hE.2.2.2 (by omega)
      omega
    · omega
    · omega
theorem x_blind {av : List Value} : FrameBlind (va_Pc av (fun U => U.heap = H ∧ gE l G lo hi U)) := by
  intro a U g mk q
  obtain ⟨q1, q2, q3, q4, q5, q6⟩ := q
  exact ⟨q1, q2, va_K.moved (u := U) (U := U.calling g mk a) (Vm.Alike.refl U.vm) q3, gZ.moved (u := U) (U := U.calling g mk a) (State.WarmedH.refl U) (fun _ _ _ => rfl) q4, q5, q6⟩
variable {y : MethodName} {bytes : ByteArray} {maxL nL n index : Nat} {ret : Option FieldType} {ws : List Cond} {rm : Room} {Ts : List Cond} {own C : String} {b : Addr} {As : List Value} {g : JFrame}
/-- what a call owes and gives -/
abbrev XRun (p : Program) (l : Launch) (e : Env) (R : Room) (s : State) (m : MethodId) (args : Array Value) (below : List Frame) (meth : Method) (c : Code) (H : Heap) (locs : List Loc) (cells slots mc ms : Nat) (g : JFrame) (rest : List Value) (lo1 hi1 : Nat) (Q1 : Option Value → Heap → Prop) (X1 : String → Heap → Prop) : Prop :=
  vx_Run p l e R s m args below meth c H locs cells slots mc ms g rest (fun st o t => (∃ v, o = .returned v ∧ Q1 v t.heap) ∧ va_F (gA lo1 hi1 H.size) st t) (fun E st t => X1 E t.heap ∧ va_F (gA lo1 hi1 H.size) st t) (gA lo1 hi1 H.size)
theorem x_runV (S : CallFix p m c cc nL s args Ts own) (hE : gE l G lo hi s) (h0 : s.heap = H0) (hS : va_S (gA lo hi H0.size) H0 H locs) (hM : XM l y ws rm G (.ref b :: As) H lo1 hi1 mc1 ms1 Q1 X1) (cw : CallW R s args own C index y bytes maxL ret ws rm mc1 ms1 n) (hr : ∃ cellB : Cell, H[b]? = some cellB ∧ cellB.vm.isStatics = false ∧ s.vm.findClass C = some cellB.cls) (hsub : (lo ≤ lo1 ∧ hi1 ≤ hi) ∨ hi1 ≤ lo1 ∨ H0.size ≤ lo1)
    (hg : g.method = m) (hn : As.length = n) (hsize : g.locals.size = nL) (hstack : g.stack = As.reverse ++ .ref b :: rest) (hW : 2 * g.monitorRoom + (rest.map fun v => v.category).sum ≤ 8) (hdg : decode cc g.pc = .ok (.invokevirtual index, 3)) (hf : cells + mc1 ≤ R.cells ∧ slots + ms1 ≤ R.slots) :
    XRun p l e R s m args below meth c H locs cells slots mc1 ms1 g rest lo1 hi1 Q1 X1 :=
  vx_runV S hM cw ⟨x_blind, hr, fun U hU hW => ⟨rfl, hU, x_pre hE h0 hS hsub U hU hW⟩⟩ hg hn hsize hstack hW hdg hf
theorem x_runS (S : CallFix p m c cc nL s args Ts own) (hE : gE l G lo hi s) (h0 : s.heap = H0) (hS : va_S (gA lo hi H0.size) H0 H locs) (hM : XM l y ws rm G As H lo1 hi1 mc1 ms1 Q1 X1) (cw : CallB R s args own index y bytes maxL ret ws rm mc1 ms1 n ∧ (Cond.static y).before args s = true) (hsub : (lo ≤ lo1 ∧ hi1 ≤ hi) ∨ hi1 ≤ lo1 ∨ H0.size ≤ lo1)
    (hg : g.method = m) (hn : As.length = n) (hsize : g.locals.size = nL) (hstack : g.stack = As.reverse ++ rest) (hW : 2 * g.monitorRoom + (rest.map fun v => v.category).sum ≤ 8) (hdg : decode cc g.pc = .ok (.invokestatic index, 3)) (hf : cells + mc1 ≤ R.cells ∧ slots + ms1 ≤ R.slots) :
    XRun p l e R s m args below meth c H locs cells slots mc1 ms1 g rest lo1 hi1 Q1 X1 :=
  vx_runS S hM cw ⟨x_blind, fun U hU hW => ⟨rfl, hU, x_pre hE h0 hS hsub U hU hW⟩⟩ hg hn hsize hstack hW hdg hf
theorem x_go {st0 : List Value} (hr : XRun p l e R s m args below meth c H locs cells slots mc1 ms1 (F0 m pc ls st0) rest lo1 hi1 Q1 X1) (hS : va_S (gA lo hi H0.size) H0 H locs) (hsub : (lo ≤ lo1 ∧ hi1 ≤ hi) ∨ hi1 ≤ lo1 ∨ H0.size ≤ lo1)
    (kx : ∀ (E : String) (ce : Cell) (q9 : Addr) (H1 : Heap) (locs1 : List Loc), X1 E H1 → gF lo1 hi1 H H1 → va_S (gA lo hi H0.size) H0 H1 locs1 → H1[q9]? = some ce → ce.vm = .none → s.vm.findClass E = some ce.cls → vx_W p l e R s m args below meth c H1 locs1 (cells + mc1) (slots + ms1) Q (F0 m pc ls rest) q9)
    (kk : ∀ (v : Option Value) (H1 : Heap) (locs1 : List Loc), Q1 v H1 → gF lo1 hi1 H H1 → va_S (gA lo hi H0.size) H0 H1 locs1 → W p l e R s m args below meth c H1 locs1 (cells + mc1) (slots + ms1) Q (F0 m (pc + 3) ls (v.toList ++ rest))) : W p l e R s m args below meth c H locs cells slots Q (F0 m pc ls st0) := by
  have hA : ∀ q, gA lo1 hi1 H.size q → gA lo hi H0.size q := by
    intro q hq
    have := hS.1
    unfold gA at hq ⊢
    omega
  have keep : ∀ {st₀ t T' : State} {L : List Loc}, st₀.heap = H → T'.heap = t.heap → (∀ q ∈ L, gA lo1 hi1 H.size q.base) → va_F (gA lo1 hi1 H.size) st₀ t → gF lo1 hi1 H T'.heap ∧ va_S (gA lo hi H0.size) H0 T'.heap (locs ++ L) := by
    intro st₀ t T' L h0 e1 hL hF
    obtain ⟨hz, hk⟩ := hF
    rw [h0] at hz hk
    refine ⟨⟨by rw [e1]; exact hz, fun q h1 h2 => by rw [e1]; exact hk q h1 (by unfold gA; omega)⟩, Nat.le_trans hS.1 (by rw [e1]; exact hz), fun q h1 h2 => ?_, fun q hq => ?_⟩
    · rw [e1, hk q (Nat.lt_of_lt_of_le h1 hS.1) (fun z => h2 (hA q z))]
      exact hS.2.1 q h1 h2
    · rcases List.mem_append.mp hq with h | h
      · exact hS.2.2 q h
      · exact hA _ (hL q h)
  intro T hT X
  rcases hr T hT X with ⟨v, st₀, t, T', L, h0, X', hL, e1, e2, ⟨⟨v', hv, hq⟩, hF⟩, st⟩ | ⟨q, st₀, t, T', L, E, ce, h0, X', hL, e1, e2, ⟨hx, hF⟩, hce, hcv, hcl, st⟩
  · cases hv
    obtain ⟨f1, f2⟩ := keep h0 e1 hL hF
    obtain ⟨t2, a1, b1⟩ := kk v T'.heap (locs ++ L) (by rw [e1]; exact hq) f1 f2 T' rfl X'
    exact ⟨t2, st t2 a1, b1⟩
  · obtain ⟨f1, f2⟩ := keep h0 e1 hL hF
    obtain ⟨t2, a1, b1⟩ := kx E ce q T'.heap (locs ++ L) (by rw [e1]; exact hx) f1 f2 (by rw [e1]; exact hce) hcv hcl T' rfl X'
    exact ⟨t2, st.trans a1, b1⟩
theorem x_goV {st0 : List Value} {Qh : Heap → Prop} (hr : XRun p l e R s m args below meth c H locs cells slots mc1 ms1 (F0 m pc ls st0) rest lo1 hi1 (qV Qh) X1) (hS : va_S (gA lo hi H0.size) H0 H locs) (hsub : (lo ≤ lo1 ∧ hi1 ≤ hi) ∨ hi1 ≤ lo1 ∨ H0.size ≤ lo1)
    (kx : ∀ (E : String) (ce : Cell) (q9 : Addr) (H1 : Heap) (locs1 : List Loc), X1 E H1 → gF lo1 hi1 H H1 → va_S (gA lo hi H0.size) H0 H1 locs1 → H1[q9]? = some ce → ce.vm = .none → s.vm.findClass E = some ce.cls → vx_W p l e R s m args below meth c H1 locs1 (cells + mc1) (slots + ms1) Q (F0 m pc ls rest) q9)
    (kk : ∀ (H1 : Heap) (locs1 : List Loc), Qh H1 → gF lo1 hi1 H H1 → va_S (gA lo hi H0.size) H0 H1 locs1 → W p l e R s m args below meth c H1 locs1 (cells + mc1) (slots + ms1) Q (F0 m (pc + 3) ls rest)) : W p l e R s m args below meth c H locs cells slots Q (F0 m pc ls st0) :=
  x_go hr hS hsub kx (fun v H1 locs1 hq hF hS1 => by obtain ⟨rfl, h⟩ := hq; exact kk H1 locs1 h hF hS1)
theorem x_goI {st0 : List Value} {Qh : Int32 → Heap → Prop} (hr : XRun p l e R s m args below meth c H locs cells slots mc1 ms1 (F0 m pc ls st0) rest lo1 hi1 (qI Qh) X1) (hS : va_S (gA lo hi H0.size) H0 H locs) (hsub : (lo ≤ lo1 ∧ hi1 ≤ hi) ∨ hi1 ≤ lo1 ∨ H0.size ≤ lo1)
    (kx : ∀ (E : String) (ce : Cell) (q9 : Addr) (H1 : Heap) (locs1 : List Loc), X1 E H1 → gF lo1 hi1 H H1 → va_S (gA lo hi H0.size) H0 H1 locs1 → H1[q9]? = some ce → ce.vm = .none → s.vm.findClass E = some ce.cls → vx_W p l e R s m args below meth c H1 locs1 (cells + mc1) (slots + ms1) Q (F0 m pc ls rest) q9)
    (kk : ∀ (r : Int32) (H1 : Heap) (locs1 : List Loc), Qh r H1 → gF lo1 hi1 H H1 → va_S (gA lo hi H0.size) H0 H1 locs1 → W p l e R s m args below meth c H1 locs1 (cells + mc1) (slots + ms1) Q (F0 m (pc + 3) ls (.int r :: rest))) : W p l e R s m args below meth c H locs cells slots Q (F0 m pc ls st0) :=
  x_go hr hS hsub kx (fun v H1 locs1 hq hF hS1 => by obtain ⟨r, rfl, h⟩ := hq; exact kk r H1 locs1 h hF hS1)
theorem x_goR {st0 : List Value} {Qh : Nat → Heap → Prop} (hr : XRun p l e R s m args below meth c H locs cells slots mc1 ms1 (F0 m pc ls st0) rest lo1 hi1 (qR Qh) X1) (hS : va_S (gA lo hi H0.size) H0 H locs) (hsub : (lo ≤ lo1 ∧ hi1 ≤ hi) ∨ hi1 ≤ lo1 ∨ H0.size ≤ lo1)
    (kx : ∀ (E : String) (ce : Cell) (q9 : Addr) (H1 : Heap) (locs1 : List Loc), X1 E H1 → gF lo1 hi1 H H1 → va_S (gA lo hi H0.size) H0 H1 locs1 → H1[q9]? = some ce → ce.vm = .none → s.vm.findClass E = some ce.cls → vx_W p l e R s m args below meth c H1 locs1 (cells + mc1) (slots + ms1) Q (F0 m pc ls rest) q9)
    (kk : ∀ (r : Nat) (H1 : Heap) (locs1 : List Loc), Qh r H1 → gF lo1 hi1 H H1 → va_S (gA lo hi H0.size) H0 H1 locs1 → W p l e R s m args below meth c H1 locs1 (cells + mc1) (slots + ms1) Q (F0 m (pc + 3) ls (.ref r :: rest))) : W p l e R s m args below meth c H locs cells slots Q (F0 m pc ls st0) :=
  x_go hr hS hsub kx (fun v H1 locs1 hq hF hS1 => by obtain ⟨r, rfl, h⟩ := hq; exact kk r H1 locs1 h hF hS1)
theorem x_goL {st0 : List Value} {Qh : Int64 → Heap → Prop} (hr : XRun p l e R s m args below meth c H locs cells slots mc1 ms1 (F0 m pc ls st0) rest lo1 hi1 (qL Qh) X1) (hS : va_S (gA lo hi H0.size) H0 H locs) (hsub : (lo ≤ lo1 ∧ hi1 ≤ hi) ∨ hi1 ≤ lo1 ∨ H0.size ≤ lo1)
    (kx : ∀ (E : String) (ce : Cell) (q9 : Addr) (H1 : Heap) (locs1 : List Loc), X1 E H1 → gF lo1 hi1 H H1 → va_S (gA lo hi H0.size) H0 H1 locs1 → H1[q9]? = some ce → ce.vm = .none → s.vm.findClass E = some ce.cls → vx_W p l e R s m args below meth c H1 locs1 (cells + mc1) (slots + ms1) Q (F0 m pc ls rest) q9)
    (kk : ∀ (r : Int64) (H1 : Heap) (locs1 : List Loc), Qh r H1 → gF lo1 hi1 H H1 → va_S (gA lo hi H0.size) H0 H1 locs1 → W p l e R s m args below meth c H1 locs1 (cells + mc1) (slots + ms1) Q (F0 m (pc + 3) ls (.long r :: rest))) : W p l e R s m args below meth c H locs cells slots Q (F0 m pc ls st0) :=
  x_go hr hS hsub kx (fun v H1 locs1 hq hF hS1 => by obtain ⟨r, rfl, h⟩ := hq; exact kk r H1 locs1 h hF hS1)
theorem x_goF {st0 : List Value} {Qh : UInt32 → Heap → Prop} (hr : XRun p l e R s m args below meth c H locs cells slots mc1 ms1 (F0 m pc ls st0) rest lo1 hi1 (qF Qh) X1) (hS : va_S (gA lo hi H0.size) H0 H locs) (hsub : (lo ≤ lo1 ∧ hi1 ≤ hi) ∨ hi1 ≤ lo1 ∨ H0.size ≤ lo1)
    (kx : ∀ (E : String) (ce : Cell) (q9 : Addr) (H1 : Heap) (locs1 : List Loc), X1 E H1 → gF lo1 hi1 H H1 → va_S (gA lo hi H0.size) H0 H1 locs1 → H1[q9]? = some ce → ce.vm = .none → s.vm.findClass E = some ce.cls → vx_W p l e R s m args below meth c H1 locs1 (cells + mc1) (slots + ms1) Q (F0 m pc ls rest) q9)
    (kk : ∀ (r : UInt32) (H1 : Heap) (locs1 : List Loc), Qh r H1 → gF lo1 hi1 H H1 → va_S (gA lo hi H0.size) H0 H1 locs1 → W p l e R s m args below meth c H1 locs1 (cells + mc1) (slots + ms1) Q (F0 m (pc + 3) ls (.float r :: rest))) : W p l e R s m args below meth c H locs cells slots Q (F0 m pc ls st0) :=
  x_go hr hS hsub kx (fun v H1 locs1 hq hF hS1 => by obtain ⟨r, rfl, h⟩ := hq; exact kk r H1 locs1 h hF hS1)
/-- an exception that leaves this method too -/
theorem x_thru {mc ms : Nat} {E : String} {ce : Cell} {q9 : Addr} {Qv : Option Value → Heap → Prop} {X : String → Heap → Prop} (hout : ∀ x ∈ c.exceptionTable.toList, False) (hlocks : meth.locks = false) (h0 : s.heap = H0) (hS : va_S (gA lo hi H0.size) H0 H locs) (hcell : H[q9]? = some ce) (hv : ce.vm = .none) (hcl : s.vm.findClass E = some ce.cls) (hX : X E H) (hc : cells ≤ mc) (hs : slots ≤ ms) :
    vx_W p l e R s m args below meth c H locs cells slots (XQ below args s H0 lo hi mc ms Qv X) (F0 m pc ls rest) q9 :=
  vx_out (fun x hx => (hout x hx).elim) hlocks hcell hv hcl (fun t ht _ => ⟨by rw [ht]; exact hX, x_F h0 hS ht⟩) hS.2.2 hc hs
theorem gO.recv {a ci N : Nat} {fs : List Value} {T : u_T} (hK : gK G s) (hO : gO G a ci fs H) (hc : vwCl[ci]? = some (C, T, N)) : ∃ cell : Cell, H[a]? = some cell ∧ cell.vm.isStatics = false ∧ s.vm.findClass C = some cell.cls := va_recv hK hO.P hc (q0 := 0) rfl
/-- a computed number under another name -/
theorem x_rw {x z : Int32} (h : x = z) (k : W p l e R s m args below meth c H locs cells slots Q (F0 m pc ls (.int z :: rest))) : W p l e R s m args below meth c H locs cells slots Q (F0 m pc ls (.int x :: rest)) := by rw [h]; exact k
theorem x_rwl {x z : Int64} (h : x = z) (k : W p l e R s m args below meth c H locs cells slots Q (F0 m pc ls (.long z :: rest))) : W p l e R s m args below meth c H locs cells slots Q (F0 m pc ls (.long x :: rest)) := by rw [h]; exact k
variable {a1 b1 : Nat} {off : Int} {tgt : Nat}
theorem x_icmp_lt (hx : p.tables.exec = Jvm.exec) (hb : c.code = cc) (ha : a1 < 2147483648) (hb1 : b1 < 2147483648) (hdg : decode cc pc = .ok (.if_icmp .lt off, 3)) (ht : (pc : Int) + off = (tgt : Int)) (kt : a1 < b1 → W p l e R s m args below meth c H locs cells slots Q (F0 m tgt ls rest)) (kf : b1 ≤ a1 → W p l e R s m args below meth c H locs cells slots Q (F0 m (pc + 3) ls rest)) : W p l e R s m args below meth c H locs cells slots Q (F0 m pc ls (.int (nI b1) :: .int (nI a1) :: rest)) :=
  lv_icmp_lt hx hb hdg ht (fun h => kt ((nI_ltI ha hb1).mp h)) (fun h => kf (Nat.not_lt.mp (fun q => h ((nI_ltI ha hb1).mpr q))))
theorem x_icmp_ge (hx : p.tables.exec = Jvm.exec) (hb : c.code = cc) (ha : a1 < 2147483648) (hb1 : b1 < 2147483648) (hdg : decode cc pc = .ok (.if_icmp .ge off, 3)) (ht : (pc : Int) + off = (tgt : Int)) (kt : b1 ≤ a1 → W p l e R s m args below meth c H locs cells slots Q (F0 m tgt ls rest)) (kf : a1 < b1 → W p l e R s m args below meth c H locs cells slots Q (F0 m (pc + 3) ls rest)) : W p l e R s m args below meth c H locs cells slots Q (F0 m pc ls (.int (nI b1) :: .int (nI a1) :: rest)) :=
  lv_icmp_ge hx hb hdg ht (fun h => kt ((nI_leI hb1 ha).mp h)) (fun h => kf (Nat.not_le.mp (fun q => h ((nI_leI hb1 ha).mpr q))))
theorem x_icmp_gt (hx : p.tables.exec = Jvm.exec) (hb : c.code = cc) (ha : a1 < 2147483648) (hb1 : b1 < 2147483648) (hdg : decode cc pc = .ok (.if_icmp .gt off, 3)) (ht : (pc : Int) + off = (tgt : Int)) (kt : b1 < a1 → W p l e R s m args below meth c H locs cells slots Q (F0 m tgt ls rest)) (kf : a1 ≤ b1 → W p l e R s m args below meth c H locs cells slots Q (F0 m (pc + 3) ls rest)) : W p l e R s m args below meth c H locs cells slots Q (F0 m pc ls (.int (nI b1) :: .int (nI a1) :: rest)) :=
  lv_icmp_gt hx hb hdg ht (fun h => kt ((nI_ltI hb1 ha).mp h)) (fun h => kf (Nat.not_lt.mp (fun q => h ((nI_ltI hb1 ha).mpr q))))
theorem x_icmp_le (hx : p.tables.exec = Jvm.exec) (hb : c.code = cc) (ha : a1 < 2147483648) (hb1 : b1 < 2147483648) (hdg : decode cc pc = .ok (.if_icmp .le off, 3)) (ht : (pc : Int) + off = (tgt : Int)) (kt : a1 ≤ b1 → W p l e R s m args below meth c H locs cells slots Q (F0 m tgt ls rest)) (kf : b1 < a1 → W p l e R s m args below meth c H locs cells slots Q (F0 m (pc + 3) ls rest)) : W p l e R s m args below meth c H locs cells slots Q (F0 m pc ls (.int (nI b1) :: .int (nI a1) :: rest)) :=
  lv_icmp_le hx hb hdg ht (fun h => kt ((nI_leI ha hb1).mp h)) (fun h => kf (Nat.not_le.mp (fun q => h ((nI_leI ha hb1).mpr q))))
theorem x_icmp_eq (hx : p.tables.exec = Jvm.exec) (hb : c.code = cc) (ha : a1 < 2147483648) (hb1 : b1 < 2147483648) (hdg : decode cc pc = .ok (.if_icmp .eq off, 3)) (ht : (pc : Int) + off = (tgt : Int)) (kt : a1 = b1 → W p l e R s m args below meth c H locs cells slots Q (F0 m tgt ls rest)) (kf : a1 ≠ b1 → W p l e R s m args below meth c H locs cells slots Q (F0 m (pc + 3) ls rest)) : W p l e R s m args below meth c H locs cells slots Q (F0 m pc ls (.int (nI b1) :: .int (nI a1) :: rest)) :=
  lv_icmp_eq hx hb hdg ht (fun h => kt ((nI_eq ha hb1).mp h)) (fun h => kf (fun q => h ((nI_eq ha hb1).mpr q)))
theorem x_icmp_ne (hx : p.tables.exec = Jvm.exec) (hb : c.code = cc) (ha : a1 < 2147483648) (hb1 : b1 < 2147483648) (hdg : decode cc pc = .ok (.if_icmp .ne off, 3)) (ht : (pc : Int) + off = (tgt : Int)) (kt : a1 ≠ b1 → W p l e R s m args below meth c H locs cells slots Q (F0 m tgt ls rest)) (kf : a1 = b1 → W p l e R s m args below meth c H locs cells slots Q (F0 m (pc + 3) ls rest)) : W p l e R s m args below meth c H locs cells slots Q (F0 m pc ls (.int (nI b1) :: .int (nI a1) :: rest)) :=
  lv_icmp_ne hx hb hdg ht (fun h => kt (fun q => h ((nI_eq ha hb1).mpr q))) (fun h => kf ((nI_eq ha hb1).mp h))
theorem x_if_eqB {b : Bool} (hx : p.tables.exec = Jvm.exec) (hb : c.code = cc) (hdg : decode cc pc = .ok (.ifCond .eq off, 3)) (ht : (pc : Int) + off = (tgt : Int)) (kt : b = false → W p l e R s m args below meth c H locs cells slots Q (F0 m tgt ls rest)) (kf : b = true → W p l e R s m args below meth c H locs cells slots Q (F0 m (pc + 3) ls rest)) : W p l e R s m args below meth c H locs cells slots Q (F0 m pc ls (.int (bI b) :: rest)) :=
  lv_if_eq hx hb hdg ht (fun h => kt (by cases b <;> first | rfl | exact absurd h (by decide))) (fun h => kf (by cases b <;> first | rfl | exact absurd rfl h))
theorem x_if_neB {b : Bool} (hx : p.tables.exec = Jvm.exec) (hb : c.code = cc) (hdg : decode cc pc = .ok (.ifCond .ne off, 3)) (ht : (pc : Int) + off = (tgt : Int)) (kt : b = true → W p l e R s m args below meth c H locs cells slots Q (F0 m tgt ls rest)) (kf : b = false → W p l e R s m args below meth c H locs cells slots Q (F0 m (pc + 3) ls rest)) : W p l e R s m args below meth c H locs cells slots Q (F0 m pc ls (.int (bI b) :: rest)) :=
  lv_if_ne hx hb hdg ht (fun h => kt (by cases b <;> first | rfl | exact absurd rfl h)) (fun h => kf (by cases b <;> first | rfl | exact absurd h (by decide)))
theorem x_if_eqN (hx : p.tables.exec = Jvm.exec) (hb : c.code = cc) (ha : a1 < 2147483648) (hdg : decode cc pc = .ok (.ifCond .eq off, 3)) (ht : (pc : Int) + off = (tgt : Int)) (kt : a1 = 0 → W p l e R s m args below meth c H locs cells slots Q (F0 m tgt ls rest)) (kf : 0 < a1 → W p l e R s m args below meth c H locs cells slots Q (F0 m (pc + 3) ls rest)) : W p l e R s m args below meth c H locs cells slots Q (F0 m pc ls (.int (nI a1) :: rest)) :=
  lv_if_eq hx hb hdg ht (fun h => kt ((z_eq ha).mp h)) (fun h => kf (Nat.pos_of_ne_zero (fun q => h ((z_eq ha).mpr q))))
theorem x_if_neN (hx : p.tables.exec = Jvm.exec) (hb : c.code = cc) (ha : a1 < 2147483648) (hdg : decode cc pc = .ok (.ifCond .ne off, 3)) (ht : (pc : Int) + off = (tgt : Int)) (kt : 0 < a1 → W p l e R s m args below meth c H locs cells slots Q (F0 m tgt ls rest)) (kf : a1 = 0 → W p l e R s m args below meth c H locs cells slots Q (F0 m (pc + 3) ls rest)) : W p l e R s m args below meth c H locs cells slots Q (F0 m pc ls (.int (nI a1) :: rest)) :=
  lv_if_ne hx hb hdg ht (fun h => kt (Nat.pos_of_ne_zero (fun q => h ((z_eq ha).mpr q)))) (fun h => kf ((z_eq ha).mp h))
theorem x_if_leN (hx : p.tables.exec = Jvm.exec) (hb : c.code = cc) (ha : a1 < 2147483648) (hdg : decode cc pc = .ok (.ifCond .le off, 3)) (ht : (pc : Int) + off = (tgt : Int)) (kt : a1 = 0 → W p l e R s m args below meth c H locs cells slots Q (F0 m tgt ls rest)) (kf : 0 < a1 → W p l e R s m args below meth c H locs cells slots Q (F0 m (pc + 3) ls rest)) : W p l e R s m args below meth c H locs cells slots Q (F0 m pc ls (.int (nI a1) :: rest)) :=
  lv_if_le hx hb hdg ht (fun h => kt ((z_le ha).mp h)) (fun h => kf (Nat.pos_of_ne_zero (fun q => h ((z_le ha).mpr q))))
theorem x_if_gtN (hx : p.tables.exec = Jvm.exec) (hb : c.code = cc) (ha : a1 < 2147483648) (hdg : decode cc pc = .ok (.ifCond .gt off, 3)) (ht : (pc : Int) + off = (tgt : Int)) (kt : 0 < a1 → W p l e R s m args below meth c H locs cells slots Q (F0 m tgt ls rest)) (kf : a1 = 0 → W p l e R s m args below meth c H locs cells slots Q (F0 m (pc + 3) ls rest)) : W p l e R s m args below meth c H locs cells slots Q (F0 m pc ls (.int (nI a1) :: rest)) :=
  lv_if_gt hx hb hdg ht (fun h => kt ((z_lt ha).mp h)) (fun h => kf (Nat.eq_zero_of_not_pos (fun q => h ((z_lt ha).mpr q))))
theorem x_if_ltN (hx : p.tables.exec = Jvm.exec) (hb : c.code = cc) (ha : a1 < 2147483648) (hdg : decode cc pc = .ok (.ifCond .lt off, 3)) (ht : (pc : Int) + off = (tgt : Int)) (kf : W p l e R s m args below meth c H locs cells slots Q (F0 m (pc + 3) ls rest)) : W p l e R s m args below meth c H locs cells slots Q (F0 m pc ls (.int (nI a1) :: rest)) :=
  lv_if_lt hx hb hdg ht (fun h => absurd h (nI_pos ha)) (fun _ => kf)
theorem x_if_geN (hx : p.tables.exec = Jvm.exec) (hb : c.code = cc) (ha : a1 < 2147483648) (hdg : decode cc pc = .ok (.ifCond .ge off, 3)) (ht : (pc : Int) + off = (tgt : Int)) (kt : W p l e R s m args below meth c H locs cells slots Q (F0 m tgt ls rest)) : W p l e R s m args below meth c H locs cells slots Q (F0 m pc ls (.int (nI a1) :: rest)) :=
  lv_if_ge hx hb hdg ht (fun _ => kt) (fun h => absurd (nI_pos' ha) h)
end GC
