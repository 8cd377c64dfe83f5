/-! ===== rows of the law ===== -/
def chn (x : Int32) : Nat := x.toBitVec.toNat % 65536
theorem chn_lt (x : Int32) : chn x < 65536 := Nat.mod_lt _ (by decide)
theorem chn_i2c (x : Int32) : (x.toUInt32 % 65536).toInt32 = nI (chn x) := by
  apply Int32.toBitVec_inj.mp
  apply BitVec.eq_of_toNat_eq
  show (x.toUInt32 % 65536).toBitVec.toNat = (BitVec.ofNat 32 (chn x)).toNat
  rw [BitVec.toNat_ofNat, Nat.mod_eq_of_lt (Nat.lt_trans (chn_lt x) (by decide))]
  show (x.toUInt32 % 65536).toNat = _
  rw [UInt32.toNat_mod]
  rfl
theorem lg_self (x : Int64) : lg_cmp x x = nI 0 := by
  unfold lg_cmp
  rw [if_neg (Int64.lt_irrefl), if_pos rfl]
  rfl
theorem nn_of {r : UInt32} (h : r.toNat % 2 ^ 31 < 149 * 2 ^ 23) : FP.dIsNaN (FP.f2d r) = false := by
  have h1 : FP.fIsNaN r = false := by
    cases e : FP.fIsNaN r with
    | false => rfl
    | true => have := (FP.Core.isNaN_bits32 r).mp e; omega
  exact (FP.f2d_nan r).trans h1
theorem shr_nn {txt : Nat → List Nat} (hg : ∀ i, i < 8 → Gt (txt i)) : FP.dIsNaN (FP.f2d (shr txt)) = false := by
  have h1 := shA_lo hg 8 (Nat.le_refl _)
  have h2 := shA_hi hg 8 (Nat.le_refl _)
  have h3 := shW_le txt 8
  exact nn_of (fdiv_small (w := shW txt 8) (a := shA txt 8) (by omega) (by omega) (by omega))
theorem dc_self {a : UInt64} (h : FP.dIsNaN a = false) : Op.cmpValue (FP.dcmp a a) .l = nI 0 := by
  have h2 : FP.dcmp a a = some .eq := FP.Core.dcmp_self ((FP.Core.notNaN_iff a).mp h)
  rw [h2]
  rfl
/-- the answer that the class left, if it left one -/
def OVk (k : Int32) (G : gG) (o : Nat) (v : Int64) (H : Heap) : Prop := k = 0 → OV G o v H
theorem OVk.fr {k : Int32} {G : gG} {o lo hi : Nat} {v : Int64} {H H1 : Heap} (h : OVk k G o v H) (f : gF lo hi H H1) (hd : o < lo ∨ hi ≤ o) : OVk k G o v H1 := by
  intro hk
  obtain ⟨g, h1, h2⟩ := h hk
  exact ⟨g, h1.fr f hd, h2⟩
theorem os_uni {txt : Nat → List Nat} (hg : ∀ i, i < 8 → Gt (txt i)) {p1 p2 : Nat → Nat} (h1 : OS txt 8 p1) (h2 : OS txt 8 p2) : ∀ i, i < 8 → p1 i = p2 i := fun i hi => plc_inj hg (h1.1 i hi) (h2.1 i hi) ((os_plc hg h1 hi).trans (os_plc hg h2 hi).symm)
theorem os_cnt {txt : Nat → List Nat} (hg : ∀ i, i < 8 → Gt (txt i)) {pm : Nat → Nat} (h : OS txt 8 pm) : cntB (fun j => decide (pm j ≠ j)) 8 = cntB (fun s => decide (plc txt s ≠ s)) 8 := by
  refine cntB_congr fun i hi => ?_
  refine decide_eq_decide.mpr ⟨fun g e => g ?_, fun g e => g ?_⟩
  · exact plc_inj hg (h.1 i hi) hi ((os_plc hg h hi).trans e.symm)
  · have := os_plc hg h hi
    rw [e] at this
    exact this
theorem okN_ix {x : Int32} {n : Nat} (hn : n < 2147483648) (h : okN n x) : ix x < n := by
  obtain ⟨i, hi, rfl⟩ := h
  rw [ix_N (by omega)]
  exact hi
/-- what the law's text and its start give -/
def LC (p : Program) (l : Launch) (s : State) (m : MethodId) (args : Array Value) (c : Code) (G : gG) (b0 n : Nat) (xs : Nat → Int32) (H0 : Heap) : Prop := p.tables.exec = Jvm.exec ∧ c.code = cL_law ∧ c.maxLocals = 9 ∧ s.vm.findClass RL = some m.cls ∧ (∀ w ∈ wsL_law, w.before args s = true) ∧ va_X b0 n xs s H0 ∧ b0 < H0.size ∧ s.heap = H0 ∧ gE l G 0 0 s ∧ gX s
section LR
variable {p : Program} {l : Launch} {e : Env} {R : Room} {s : State} {m : MethodId} {args : Array Value} {below : List Frame} {meth : Method} {c : Code} {H : Heap} {locs : List Loc} {cells slots : Nat} {Q : State → Prop}
variable {cc : ByteArray} {pc : Nat} {ls : Array Slot} {rest : List Value} {H0 : Heap}
theorem x_sld {b0 n i : Nat} {xs : Nat → Int32} (hx : p.tables.exec = Jvm.exec) (hb : c.code = cc) (hXs : va_X b0 n xs s H0) (hbl : b0 < H0.size) (hS : va_S (gA 0 0 H0.size) H0 H locs) (hi : i < n) (hn : n < 2147483648) (hdg : decode cc pc = .ok (.iaload, 1))
    (kk : W p l e R s m args below meth c H locs cells slots Q (F0 m (pc + 1) ls (.int (xs i) :: rest))) : W p l e R s m args below meth c H locs cells slots Q (F0 m pc ls (.int (nI i) :: .ref b0 :: rest)) := by
  refine va_sld hx hb hXs hbl (by unfold gA; omega) hS (vp_in_nI hi hn) hdg ?_
  rw [nI_clamp (by omega)]
  exact kk
theorem x_lcmp0 {x : Int64} (hx : p.tables.exec = Jvm.exec) (hb : c.code = cc) (hdg : decode cc pc = .ok (.lcmp, 1))
    (kk : W p l e R s m args below meth c H locs cells slots Q (F0 m (pc + 1) ls (.int (nI 0) :: rest))) : W p l e R s m args below meth c H locs cells slots Q (F0 m pc ls (.long x :: .long x :: rest)) := by
  refine W.lcmp hx hb hdg ?_
  rw [lg_self]
  exact kk
theorem x_rwd {x z : UInt64} (h : x = z) (k : W p l e R s m args below meth c H locs cells slots Q (F0 m pc ls (.double z :: rest))) : W p l e R s m args below meth c H locs cells slots Q (F0 m pc ls (.double x :: rest)) := by rw [h]; exact k
end LR
theorem good_ini : GoodIn (.classLink RX3 31 "[[[I" :: wsL_law) wsX3_ini := by
  intro w h
  rcases List.mem_cons.mp h with h | h
  · have g := ggL_law_X3_init w (by rw [h]; exact List.mem_cons_self)
    exact ⟨List.mem_cons_of_mem _ g.1, g.2⟩
  · rcases List.mem_cons.mp h with h | h
    · subst h
      exact ⟨List.mem_cons_self, good_of_word (by decide)⟩
    · have g := ggL_law_X3_init w (List.mem_of_mem_tail h)
      exact ⟨List.mem_cons_of_mem _ g.1, g.2⟩
section LJ
variable {p : Program} {l : Launch} {e : Env} {R : Room} {s : State} {m : MethodId} {args : Array Value} {below : List Frame} {meth : Method} {c : Code} {H : Heap} {locs : List Loc} {cells slots : Nat} {Q : State → Prop}
variable {cc : ByteArray} {pc : Nat} {ls : Array Slot} {rest : List Value} {H0 : Heap} {G : gG} {lo hi : Nat}
theorem x_newJ {n : Nat} (hx : p.tables.exec = Jvm.exec) (hb : c.code = cc) (hK : gK G s) (hS : va_S (gA lo hi H0.size) H0 H locs) (harr : (Cond.arrayClass .long).before args s = true)
    (hn : n ≤ 100) (hcells : cells + 1 ≤ R.cells) (hslots : slots + n ≤ R.slots) (hdg : decode cc pc = .ok (.newarray .long, 2))
    (kk : ∀ (z : Nat) (H1 : Heap), H.size = z → H0.size ≤ z → gJ G z 6 n (fun _ => 0) H1 → gF 0 0 H H1 → H1.size = z + 1 → va_S (gA lo hi H0.size) H0 H1 locs → W p l e R s m args below meth c H1 locs (cells + 1) (slots + n) Q (F0 m (pc + 2) ls (.ref z :: rest))) : W p l e R s m args below meth c H locs cells slots Q (F0 m pc ls (.int (nI n) :: rest)) := by
  refine va_newaK (atype := .long) hx hb harr rfl hdg rfl (nI_pos (by omega)) (nI_clamp (by omega)) ?_ hcells hslots rfl fun H1 cA e1 z1 o1 hAr hNm => ?_
  · show n * 8 ≤ _
    omega
  · have f1 : s.vm.findClass ("[" ++ (gTy 6).toString) = some (G.2.1 6) := (hK.2 6 _ (gTys_at (by decide))).2
    have hc : cA = G.2.1 6 := Option.some.inj (hNm.symm.trans f1)
    subst hc
    refine kk H.size H1 rfl hS.1 ?_ ⟨by omega, fun q hq _ => o1 q hq⟩ z1 ⟨Nat.le_trans hS.1 (by omega), fun x h1 h2 => (o1 x (Nat.lt_of_lt_of_le h1 hS.1)).trans (hS.2.1 x h1 h2), hS.2.2⟩
    show H1[H.size]? = some (vp_cell _ _)
    rw [e1]
    rfl
end LJ
