/-! ===== the reference: what its calls do to its state ===== -/
theorem MT.setO {G : gG} {y T : Nat} {L : List Nat} {txt : Nat → List Nat} {tad : Nat → Nat} {th th2 : Int32} {H H1 : Heap} (h : MT G y T L txt tad th H) (k : gF y (y + 1) H H1) (hO : MO G y (nI L.length) th2 H1) : MT G y T L txt tad th2 H1 := by
  obtain ⟨h1, h2, ⟨f2, h3, h3b⟩, ⟨f11, h4, h4b⟩, h5, h6, h7, h8⟩ := h
  refine ⟨hO, h2.fr k (by omega), ⟨f2, h3.fr k (by omega), h3b⟩, ⟨f11, h4.fr k (by omega), h4b⟩, fun i hi => ?_, h6, h7, Nat.le_trans h8 k.1⟩
  obtain ⟨a1, a2, a3, a4⟩ := h5 i hi
  exact ⟨a1.fr k (by omega), a2, a3, a4⟩
/-- the draft changes -/
theorem MT.setD {G : gG} {y T : Nat} {L D : List Nat} {txt : Nat → List Nat} {tad : Nat → Nat} {th th2 : Int32} {H H1 : Heap} (h : MT G y T L txt tad th H) (k : gF y (y + 2) H H1) (hO : MO G y (nI D.length) th2 H1) (hT : TA G (y + 1) D H1) (hD : D = [] ∨ Gt D) : MT G y T D txt tad th2 H1 := by
  obtain ⟨h1, h2, ⟨f2, h3, h3b⟩, ⟨f11, h4, h4b⟩, h5, h6, h7, h8⟩ := h
  refine ⟨hO, hT, ⟨f2, h3.fr k (by omega), h3b⟩, ⟨f11, h4.fr k (by omega), h4b⟩, fun i hi => ?_, hD, h7, Nat.le_trans h8 k.1⟩
  obtain ⟨a1, a2, a3, a4⟩ := h5 i hi
  exact ⟨a1.fr k (by omega), a2, a3, a4⟩
theorem MT.W {G : gG} {y T : Nat} {L : List Nat} {txt : Nat → List Nat} {tad : Nat → Nat} {th : Int32} {w : Wt} {H : Heap} (h : MT G y T L txt tad th H) (hLA : LA G y w H) : MW G y L txt th H := ⟨tad, w, h.rise h.T.2 (Nat.le_refl _), hLA⟩
theorem inB_okN {x : Int32} {n : Nat} (hn : n < 2147483647) : inB x (nI 0) (nI n) = true ↔ okN (n + 1) x := inB_iff.trans (okNum hn)
theorem inB_okP {x : Int32} {n : Nat} (hn : n < 2147483647) : inB x (nI 1) (nI n) = true ↔ okP n x := inB_iff.trans (okP_iff hn).symm
theorem inB_no {x a b : Int32} {A : Prop} (h : inB x a b = false) (h2 : inB x a b = true ↔ A) : ¬ A := fun g => by rw [h2.mpr g] at h; cases h
def jB (L : List Nat) (how k n : Nat) : Bool := decide (0 < L.length ∧ ¬ (how = 110 ∧ kd (cg L (L.length - 1)) = k) ∧ ¬ (how = 43 ∧ 45 ∉ L) ∧ L.length + (if how = 110 then n else 1 + n) ≤ 60)
theorem jB_iff {L : List Nat} {how k n : Nat} : jB L how k n = true ↔ Jn L how k n := decide_eq_true_iff
theorem jB_t {L : List Nat} {how k n : Nat} (h : Jn L how k n) : nI 1 = bI (jB L how k n) := by rw [jB_iff.mpr h]; rfl
theorem jB_f {L : List Nat} {how k n : Nat} (h : ¬ Jn L how k n) : nI 0 = bI (jB L how k n) := by
  cases g : jB L how k n with
  | false => rfl
  | true => exact absurd (jB_iff.mp g) h
theorem mem_cg {L : List Nat} {x : Nat} : x ∈ L ↔ ∃ i, i < L.length ∧ cg L i = x := by
  constructor
  · intro h
    obtain ⟨i, hi, e⟩ := List.mem_iff_getElem.mp h
    exact ⟨i, hi, by unfold cg; simp [List.getD, List.getElem?_eq_getElem hi, e]⟩
  · rintro ⟨i, hi, rfl⟩
    exact cg_mem hi
theorem Gt.last {L : List Nat} (h : Gt L) (hp : 0 < L.length) : kd (cg L (L.length - 1)) ≠ 0 := by
  intro h0
  apply h.1
  have e : L.length = L.length - 1 + 1 := by omega
  rw [e, pf_J h0]
theorem ds_t1 {L : List Nat} {u : Bool} {j : Nat} (h : u = true ↔ ∃ i, i < j ∧ cg L i = 45) (hu : u = true) : true = true ↔ ∃ i, i < j + 1 ∧ cg L i = 45 := by
  obtain ⟨i, h1, h2⟩ := h.mp hu
  exact ⟨fun _ => ⟨i, by omega, h2⟩, fun _ => rfl⟩
theorem ds_t2 {L : List Nat} {j : Nat} (hc : cg L j = 45) : true = true ↔ ∃ i, i < j + 1 ∧ cg L i = 45 := ⟨fun _ => ⟨j, by omega, hc⟩, fun _ => rfl⟩
theorem ds_f {L : List Nat} {u : Bool} {j : Nat} (h : u = true ↔ ∃ i, i < j ∧ cg L i = 45) (hu : u = false) (hc : ¬ cg L j = 45) : false = true ↔ ∃ i, i < j + 1 ∧ cg L i = 45 := by
  refine ⟨fun g => by cases g, ?_⟩
  rintro ⟨i, h1, h2⟩
  by_cases e : i = j
  · subst e; exact absurd h2 hc
  · rw [hu] at h; exact h.mpr ⟨i, by omega, h2⟩
theorem kd_dk {bn : Bool} {k x : Nat} (hk : (bn = true ∧ k = 1) ∨ (bn = false ∧ k = 2)) (h : ¬ bI (decide (kd x = 1)) = bI bn) : ¬ kd x = k := by
  rcases hk with ⟨rfl, rfl⟩ | ⟨rfl, rfl⟩
  · intro g; exact h (by rw [decide_eq_true g])
  · intro g; exact h (by rw [decide_eq_false (by omega)])
theorem kd_ek {bn : Bool} {k x : Nat} (hk : (bn = true ∧ k = 1) ∨ (bn = false ∧ k = 2)) (h0 : kd x ≠ 0) (h : bI (decide (kd x = 1)) = bI bn) : kd x = k := by
  have h := bI_inj h
  have := kd_lt x
  rcases hk with ⟨rfl, rfl⟩ | ⟨rfl, rfl⟩
  · exact of_decide_eq_true h
  · have := of_decide_eq_false h; omega
theorem TA_push {G : gG} {a x : Nat} {L : List Nat} {g : Nat → Int32} {H : Heap} (h : gI G a 0 60 (upd g L.length (nI x)) H) (h1 : ∀ j, j < L.length → g j = nI (cg L j)) (hl : L.length < 60) (hx : x < 65536) (hc : ∀ c ∈ L, c < 65536) : TA G a (L ++ [x]) H := by
  refine ⟨_, h, fun i hi => ?_, by simp; omega, fun c hcc => ?_⟩
  · simp at hi
    by_cases e : i = L.length
    · subst e; rw [cg_new]; exact pk_us
    · rw [cg_app (by omega), pk_un e]; exact h1 i (by omega)
  · rcases List.mem_append.mp hcc with g | g
    · exact hc c g
    · rw [List.mem_singleton.mp g]; exact hx
theorem TA_join {G : gG} {a n : Nat} {L N : List Nat} {g2 fd : Nat → Int32} {H : Heap} (h : gI G a 0 60 g2 H) (h0 : ∀ i, i < L.length → g2 i = fd i) (h1 : ∀ j, j < L.length → fd j = nI (cg L j)) (h2 : ∀ i, i < n → g2 (L.length + i) = nI (cg N i)) (hn : N.length = n) (gP : Gt (L ++ N)) : TA G a (L ++ N) H := by
  refine TA_mk h (fun j hj => ?_) gP
  rw [List.length_append] at hj
  by_cases e : j < L.length
  · rw [cg_app e, h0 j e, h1 j e]
  · obtain ⟨d, rfl⟩ : ∃ d, j = L.length + d := ⟨j - L.length, by omega⟩
    rw [h2 d (by omega), cg_app2]
