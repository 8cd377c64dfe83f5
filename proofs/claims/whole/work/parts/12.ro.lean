/-! ===== methods that leave the heap as it is; small facts ===== -/
def roV (H0 : Heap) (C : Prop) : Option Value → Heap → Prop := qV (fun H1 => H1 = H0 ∧ C)
def roI (H0 : Heap) (v : Int32) (C : Prop) : Option Value → Heap → Prop := qI (fun r H1 => H1 = H0 ∧ r = v ∧ C)
def roR (H0 : Heap) (v : Nat) (C : Prop) : Option Value → Heap → Prop := qR (fun r H1 => H1 = H0 ∧ r = v ∧ C)
def roL (H0 : Heap) (v : Int64) (C : Prop) : Option Value → Heap → Prop := qL (fun r H1 => H1 = H0 ∧ r = v ∧ C)
def roF (H0 : Heap) (v : UInt32) (C : Prop) : Option Value → Heap → Prop := qF (fun r H1 => H1 = H0 ∧ r = v ∧ C)
section GR
variable {p : Program} {l : Launch} {e : Env} {R : Room} {s : State} {m : MethodId} {args : Array Value} {below : List Frame} {meth : Method} {c : Code} {H : Heap} {locs : List Loc} {cells slots : Nat} {Q : State → Prop}
variable {cc : ByteArray} {pc : Nat} {ls : Array Slot} {rest : List Value} {H0 : Heap} {lo hi lo1 hi1 mc ms mc1 ms1 : Nat} {X1 : String → Heap → Prop} {G : gG} {C : Prop} {st0 : List Value}
theorem x_goV_ro (hr : XRun p l e R s m args below meth c H locs cells slots mc1 ms1 (F0 m pc ls st0) rest lo1 hi1 (roV H C) X1) (hS : va_S (gA lo hi H0.size) H0 H locs) (hsub : (lo ≤ lo1 ∧ hi1 ≤ hi) ∨ hi1 ≤ lo1 ∨ H0.size ≤ lo1)
    (kx : ∀ (E : String) (ce : Cell) (q9 : Addr) (H1 : Heap) (locs1 : List Loc), X1 E H1 → gF lo1 hi1 H H1 → va_S (gA lo hi H0.size) H0 H1 locs1 → H1[q9]? = some ce → ce.vm = .none → s.vm.findClass E = some ce.cls → vx_W p l e R s m args below meth c H1 locs1 (cells + mc1) (slots + ms1) Q (F0 m pc ls rest) q9)
    (kk : ∀ (locs1 : List Loc), C → va_S (gA lo hi H0.size) H0 H locs1 → W p l e R s m args below meth c H locs1 (cells + mc1) (slots + ms1) Q (F0 m (pc + 3) ls rest)) : W p l e R s m args below meth c H locs cells slots Q (F0 m pc ls st0) :=
  x_goV hr hS hsub kx (fun H1 locs1 hq _ hS1 => by obtain ⟨rfl, h⟩ := hq; exact kk locs1 h hS1)
theorem x_goI_ro {v : Int32} (hr : XRun p l e R s m args below meth c H locs cells slots mc1 ms1 (F0 m pc ls st0) rest lo1 hi1 (roI H v C) X1) (hS : va_S (gA lo hi H0.size) H0 H locs) (hsub : (lo ≤ lo1 ∧ hi1 ≤ hi) ∨ hi1 ≤ lo1 ∨ H0.size ≤ lo1)
    (kx : ∀ (E : String) (ce : Cell) (q9 : Addr) (H1 : Heap) (locs1 : List Loc), X1 E H1 → gF lo1 hi1 H H1 → va_S (gA lo hi H0.size) H0 H1 locs1 → H1[q9]? = some ce → ce.vm = .none → s.vm.findClass E = some ce.cls → vx_W p l e R s m args below meth c H1 locs1 (cells + mc1) (slots + ms1) Q (F0 m pc ls rest) q9)
    (kk : ∀ (locs1 : List Loc), C → va_S (gA lo hi H0.size) H0 H locs1 → W p l e R s m args below meth c H locs1 (cells + mc1) (slots + ms1) Q (F0 m (pc + 3) ls (.int v :: rest))) : W p l e R s m args below meth c H locs cells slots Q (F0 m pc ls st0) :=
  x_goI hr hS hsub kx (fun r H1 locs1 hq _ hS1 => by obtain ⟨rfl, rfl, h⟩ := hq; exact kk locs1 h hS1)
theorem x_goR_ro {v : Nat} (hr : XRun p l e R s m args below meth c H locs cells slots mc1 ms1 (F0 m pc ls st0) rest lo1 hi1 (roR H v C) X1) (hS : va_S (gA lo hi H0.size) H0 H locs) (hsub : (lo ≤ lo1 ∧ hi1 ≤ hi) ∨ hi1 ≤ lo1 ∨ H0.size ≤ lo1)
    (kx : ∀ (E : String) (ce : Cell) (q9 : Addr) (H1 : Heap) (locs1 : List Loc), X1 E H1 → gF lo1 hi1 H H1 → va_S (gA lo hi H0.size) H0 H1 locs1 → H1[q9]? = some ce → ce.vm = .none → s.vm.findClass E = some ce.cls → vx_W p l e R s m args below meth c H1 locs1 (cells + mc1) (slots + ms1) Q (F0 m pc ls rest) q9)
    (kk : ∀ (locs1 : List Loc), C → va_S (gA lo hi H0.size) H0 H locs1 → W p l e R s m args below meth c H locs1 (cells + mc1) (slots + ms1) Q (F0 m (pc + 3) ls (.ref v :: rest))) : W p l e R s m args below meth c H locs cells slots Q (F0 m pc ls st0) :=
  x_goR hr hS hsub kx (fun r H1 locs1 hq _ hS1 => by obtain ⟨rfl, rfl, h⟩ := hq; exact kk locs1 h hS1)
theorem x_goL_ro {v : Int64} (hr : XRun p l e R s m args below meth c H locs cells slots mc1 ms1 (F0 m pc ls st0) rest lo1 hi1 (roL H v C) X1) (hS : va_S (gA lo hi H0.size) H0 H locs) (hsub : (lo ≤ lo1 ∧ hi1 ≤ hi) ∨ hi1 ≤ lo1 ∨ H0.size ≤ lo1)
    (kx : ∀ (E : String) (ce : Cell) (q9 : Addr) (H1 : Heap) (locs1 : List Loc), X1 E H1 → gF lo1 hi1 H H1 → va_S (gA lo hi H0.size) H0 H1 locs1 → H1[q9]? = some ce → ce.vm = .none → s.vm.findClass E = some ce.cls → vx_W p l e R s m args below meth c H1 locs1 (cells + mc1) (slots + ms1) Q (F0 m pc ls rest) q9)
    (kk : ∀ (locs1 : List Loc), C → va_S (gA lo hi H0.size) H0 H locs1 → W p l e R s m args below meth c H locs1 (cells + mc1) (slots + ms1) Q (F0 m (pc + 3) ls (.long v :: rest))) : W p l e R s m args below meth c H locs cells slots Q (F0 m pc ls st0) :=
  x_goL hr hS hsub kx (fun r H1 locs1 hq _ hS1 => by obtain ⟨rfl, rfl, h⟩ := hq; exact kk locs1 h hS1)
theorem x_goF_ro {v : UInt32} (hr : XRun p l e R s m args below meth c H locs cells slots mc1 ms1 (F0 m pc ls st0) rest lo1 hi1 (roF H v C) X1) (hS : va_S (gA lo hi H0.size) H0 H locs) (hsub : (lo ≤ lo1 ∧ hi1 ≤ hi) ∨ hi1 ≤ lo1 ∨ H0.size ≤ lo1)
    (kx : ∀ (E : String) (ce : Cell) (q9 : Addr) (H1 : Heap) (locs1 : List Loc), X1 E H1 → gF lo1 hi1 H H1 → va_S (gA lo hi H0.size) H0 H1 locs1 → H1[q9]? = some ce → ce.vm = .none → s.vm.findClass E = some ce.cls → vx_W p l e R s m args below meth c H1 locs1 (cells + mc1) (slots + ms1) Q (F0 m pc ls rest) q9)
    (kk : ∀ (locs1 : List Loc), C → va_S (gA lo hi H0.size) H0 H locs1 → W p l e R s m args below meth c H locs1 (cells + mc1) (slots + ms1) Q (F0 m (pc + 3) ls (.float v :: rest))) : W p l e R s m args below meth c H locs cells slots Q (F0 m pc ls st0) :=
  x_goF hr hS hsub kx (fun r H1 locs1 hq _ hS1 => by obtain ⟨rfl, rfl, h⟩ := hq; exact kk locs1 h hS1)
end GR
theorem x_dec {a : Nat} (h : 1 ≤ a) : nI a + Int32.ofInt (-1) = nI (a - 1) := by
  obtain ⟨b, rfl⟩ : ∃ b, a = b + 1 := ⟨a - 1, by omega⟩
  exact pk_m1 b
theorem x_charN {ch : Nat} (h : ch < 65536) : narrow .char (.int (nI ch)) = .int (nI ch) := (pk_charN h).1
theorem x_i2c {a : Nat} (h : a < 65536) : ((nI a).toUInt32 % 65536).toInt32 = nI a := by
  rw [pk_char, pk_tn (by omega)]
  rw [Nat.mod_eq_of_lt h]
theorem bI_nar (b : Bool) : narrow .boolean (.int (bI b)) = .int (bI b) := by cases b <;> rfl
