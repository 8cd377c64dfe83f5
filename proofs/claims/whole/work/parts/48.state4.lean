/-! ===== the reference: what its calls do to its state ===== -/
theorem MT.setO {G : gG} {y T : Nat} {L : List Nat} {txt : Nat → List Nat} {tad : Nat → Nat} {th th2 : Int32} {H H1 : Heap} (h : MT G y T L txt tad th H) (k : gF y (y + 1) H H1) (hO : MO G y (nI L.length) th2 H1) : MT G y T L txt tad th2 H1 := by
  obtain ⟨h1, h2, ⟨f2, h3, h3b⟩, ⟨f11, h4, h4b⟩, h5, h6, h7, h8⟩ := h
  refine ⟨hO, h2.fr k (by omega), ⟨f2, h3.fr k (by omega), h3b⟩, ⟨f11, h4.fr k (by omega), h4b⟩, fun i hi => ?_, h6, h7, Nat.le_trans h8 k.1⟩
  obtain ⟨a1, a2, a3, a4⟩ := h5 i hi
  exact ⟨a1.fr k (by omega), a2, a3, a4⟩
/-- the draft changes -/
theorem MT.setD {G : gG} {y T : Nat} {L D : List Nat} {txt : Nat → List Nat} {tad : Nat → Nat} {th th2 : Int32} {H H1 : Heap} (h : MT G y T L txt tad th H) (k : gF y (y + 2) H H1) (hO : MO G y (nI D.length) th2 H1) (hT : TA G (y + 1) D H1) (hD : D = [] ∨ Gt D) : MT G y T D txt tad th2 H1 := by
  obtain ⟨h1, h2, ⟨f2, h3, h3b⟩, ⟨f11, h4, h4b⟩, h5, h6, h7, h8⟩ := h
  refine ⟨hO, hT, ⟨f2, h3.fr k (by omega), h3b⟩, ⟨f11, h4.fr k (by omega), h4b⟩, fun i hi => ?_, hD, h7, Nat.le_trans h8 k.1⟩
  obtain ⟨a1, a2, a3, a4⟩ := h5 i hi
  exact ⟨a1.fr k (by omega), a2, a3, a4⟩
theorem MT.W {G : gG} {y T : Nat} {L : List Nat} {txt : Nat → List Nat} {tad : Nat → Nat} {th : Int32} {w : Wt} {H : Heap} (h : MT G y T L txt tad th H) (hLA : LA G y w H) : MW G y L txt th H := ⟨tad, w, h.rise h.T.2 (Nat.le_refl _), hLA⟩
theorem inB_okN {x : Int32} {n : Nat} (hn : n < 2147483647) : inB x (nI 0) (nI n) = true ↔ okN (n + 1) x := inB_iff.trans (okNum hn)
theorem inB_okP {x : Int32} {n : Nat} (hn : n < 2147483647) : inB x (nI 1) (nI n) = true ↔ okP n x := inB_iff.trans (okP_iff hn).symm
theorem inB_no {x a b : Int32} {A : Prop} (h : inB x a b = false) (h2 : inB x a b = true ↔ A) : ¬ A := fun g => by rw [h2.mpr g] at h; cases h
def jB (L : List Nat) (how k n : Nat) : Bool := decide (0 < L.length ∧ ¬ (how = 110 ∧ kd (cg L (L.length - 1)) = k) ∧ ¬ (how = 43 ∧ 45 ∉ L) ∧ L.length + (if how = 110 then n else 1 + n) ≤ 60)
theorem jB_iff {L : List Nat} {how k n : Nat} : jB L how k n = true ↔ Jn L how k n := decide_eq_true_iff
theorem jB_t {L : List Nat} {how k n : Nat} (h : Jn L how k n) : nI 1 = bI (jB L how k n) := by rw [jB_iff.mpr h]; rfl
theorem jB_f {L : List Nat} {how k n : Nat} (h : ¬ Jn L how k n) : nI 0 = bI (jB L how k n) := by
  cases g : jB L how k n with
  | false => rfl
  | true => exact absurd (jB_iff.mp g) h
theorem mem_cg {L : List Nat} {x : Nat} : x ∈ L ↔ ∃ i, i < L.length ∧ cg L i = x := by
  constructor
  · intro h
    obtain ⟨i, hi, e⟩ := List.mem_iff_getElem.mp h
    exact ⟨i, hi, by unfold cg; simp [List.getD, List.getElem?_eq_getElem hi, e]⟩
  · rintro ⟨i, hi, rfl⟩
    exact cg_mem hi
theorem Gt.last {L : List Nat} (h : Gt L) (hp : 0 < L.length) : kd (cg L (L.length - 1)) ≠ 0 := by
  intro h0
  apply h.1
  have e : L.length = L.length - 1 + 1 := by omega
  rw [e, pf_J h0]
theorem ds_t1 {L : List Nat} {u : Bool} {j : Nat} (h : u = true ↔ ∃ i, i < j ∧ cg L i = 45) (hu : u = true) : true = true ↔ ∃ i, i < j + 1 ∧ cg L i = 45 := by
  obtain ⟨i, h1, h2⟩ := h.mp hu
  exact ⟨fun _ => ⟨i, by omega, h2⟩, fun _ => rfl⟩
theorem ds_t2 {L : List Nat} {j : Nat} (hc : cg L j = 45) : true = true ↔ ∃ i, i < j + 1 ∧ cg L i = 45 := ⟨fun _ => ⟨j, by omega, hc⟩, fun _ => rfl⟩
theorem ds_f {L : List Nat} {u : Bool} {j : Nat} (h : u = true ↔ ∃ i, i < j ∧ cg L i = 45) (hu : u = false) (hc : ¬ cg L j = 45) : false = true ↔ ∃ i, i < j + 1 ∧ cg L i = 45 := by
  refine ⟨fun g => (by cases g), ?_⟩
  rintro ⟨i, h1, h2⟩
  by_cases e : i = j
  · subst e; exact absurd h2 hc
  · rw [hu] at h; exact h.mpr ⟨i, by omega, h2⟩
theorem kd_dk {bn : Bool} {k x : Nat} (hk : (bn = true ∧ k = 1) ∨ (bn = false ∧ k = 2)) (h : ¬ bI (decide (kd x = 1)) = bI bn) : ¬ kd x = k := by
  rcases hk with ⟨rfl, rfl⟩ | ⟨rfl, rfl⟩
  · intro g; exact h (by rw [decide_eq_true g])
  · intro g; exact h (by rw [decide_eq_false (by omega)])
theorem kd_ek {bn : Bool} {k x : Nat} (hk : (bn = true ∧ k = 1) ∨ (bn = false ∧ k = 2)) (h0 : kd x ≠ 0) (h : bI (decide (kd x = 1)) = bI bn) : kd x = k := by
  have h := bI_inj h
  have := kd_lt x
  rcases hk with ⟨rfl, rfl⟩ | ⟨rfl, rfl⟩
  · exact of_decide_eq_true h
  · have := of_decide_eq_false h; omega
theorem TA_push {G : gG} {a x : Nat} {L : List Nat} {g : Nat → Int32} {H : Heap} (h : gI G a 0 60 (upd g L.length (nI x)) H) (h1 : ∀ j, j < L.length → g j = nI (cg L j)) (hl : L.length < 60) (hx : x < 65536) (hc : ∀ c ∈ L, c < 65536) : TA G a (L ++ [x]) H := by
  refine ⟨_, h, fun i hi => ?_, by simp; omega, fun c hcc => ?_⟩
  · simp at hi
    by_cases e : i = L.length
    · subst e; rw [cg_new]; exact pk_us
    · rw [cg_app (by omega), pk_un e]; exact h1 i (by omega)
  · rcases List.mem_append.mp hcc with g | g
    · exact hc c g
    · rw [List.mem_singleton.mp g]; exact hx
theorem TA_join {G : gG} {a n : Nat} {L N : List Nat} {g2 fd : Nat → Int32} {H : Heap} (h : gI G a 0 60 g2 H) (h0 : ∀ i, i < L.length → g2 i = fd i) (h1 : ∀ j, j < L.length → fd j = nI (cg L j)) (h2 : ∀ i, i < n → g2 (L.length + i) = nI (cg N i)) (hn : N.length = n) (gP : Gt (L ++ N)) : TA G a (L ++ N) H := by
  refine TA_mk h (fun j hj => ?_) gP
  rw [List.length_append] at hj
  by_cases e : j < L.length
  · rw [cg_app e, h0 j e, h1 j e]
  · obtain ⟨d, rfl⟩ : ∃ d, j = L.length + d := ⟨j - L.length, by omega⟩
    rw [h2 d (by omega), cg_app2]

/-! ===== what a call says: its code (0, or which exception), its answer, its state ===== -/
def rs1 (A : Prop) (k : Int32) : Prop := (A ∧ k = 0) ∨ (¬ A ∧ k = nI 1)
def rs2 (A B : Prop) (k : Int32) : Prop := (A ∧ B ∧ k = 0) ∨ (¬ A ∧ k = nI 1) ∨ (A ∧ ¬ B ∧ k = nI 2)
def rs3 (A B C : Prop) (k : Int32) : Prop := (A ∧ B ∧ C ∧ k = 0) ∨ (¬ A ∧ k = nI 1) ∨ (A ∧ ¬ B ∧ k = nI 2) ∨ (A ∧ B ∧ ¬ C ∧ k = nI 3)
def rsT (A B C : Prop) (k : Int32) : Prop := (A ∧ B ∧ C ∧ k = 0) ∨ (¬ A ∧ k = nI 1) ∨ (A ∧ ¬ B ∧ k = nI 2) ∨ (A ∧ B ∧ ¬ C ∧ k = nI 1)
theorem rs1_u {A : Prop} {j k : Int32} (h : rs1 A j) (g : rs1 A k) : j = k := by
  rcases h with ⟨a, rfl⟩ | ⟨a, rfl⟩ <;> rcases g with ⟨b, rfl⟩ | ⟨b, rfl⟩ <;> first | rfl | exact absurd a b | exact absurd b a
theorem rs2_u {A B : Prop} {j k : Int32} (h : rs2 A B j) (g : rs2 A B k) : j = k := by
  rcases h with ⟨a, a2, rfl⟩ | ⟨a, rfl⟩ | ⟨a, a2, rfl⟩ <;> rcases g with ⟨b, b2, rfl⟩ | ⟨b, rfl⟩ | ⟨b, b2, rfl⟩ <;> first | rfl | exact absurd a b | exact absurd b a | exact absurd a2 b2 | exact absurd b2 a2
theorem rs3_u {A B C : Prop} {j k : Int32} (h : rs3 A B C j) (g : rs3 A B C k) : j = k := by
  rcases h with ⟨a, a2, a3, rfl⟩ | ⟨a, rfl⟩ | ⟨a, a2, rfl⟩ | ⟨a, a2, a3, rfl⟩ <;> rcases g with ⟨b, b2, b3, rfl⟩ | ⟨b, rfl⟩ | ⟨b, b2, rfl⟩ | ⟨b, b2, b3, rfl⟩ <;> first | rfl | exact absurd a b | exact absurd b a | exact absurd a2 b2 | exact absurd b2 a2 | exact absurd a3 b3 | exact absurd b3 a3
theorem rsT_u {A B C : Prop} {j k : Int32} (h : rsT A B C j) (g : rsT A B C k) : j = k := by
  rcases h with ⟨a, a2, a3, rfl⟩ | ⟨a, rfl⟩ | ⟨a, a2, rfl⟩ | ⟨a, a2, a3, rfl⟩ <;> rcases g with ⟨b, b2, b3, rfl⟩ | ⟨b, rfl⟩ | ⟨b, b2, rfl⟩ | ⟨b, b2, b3, rfl⟩ <;> first | rfl | exact absurd a b | exact absurd b a | exact absurd a2 b2 | exact absurd b2 a2 | exact absurd a3 b3 | exact absurd b3 a3
def sel {α : Type} (k : Int32) (a b : α) : α := if k = 0 then a else b
theorem sel_0 {α : Type} {a b : α} : sel 0 a b = a := if_pos rfl
theorem sel_n {α : Type} {k : Int32} {a b : α} (h : k ≠ 0) : sel k a b = b := if_neg h
theorem sel_s {α : Type} {k : Int32} {a : α} : sel k a a = a := by unfold sel; split <;> rfl
/-- the reference's end: its code by R, its answer by V, its state new or as it was -/
def MR (G : gG) (y : Nat) (R : Int32 → Prop) (V : Prop) (L1 L : List Nat) (txt1 txt : Nat → List Nat) (H : Heap) : Prop := ∃ t : Int32, R t ∧ (t = 0 → V) ∧ MW G y (sel t L1 L) (sel t txt1 txt) t H
theorem MR.ok {G : gG} {y : Nat} {R : Int32 → Prop} {V : Prop} {L1 L : List Nat} {txt1 txt : Nat → List Nat} {H : Heap} (h : R 0) (hv : V) (hm : MW G y L1 txt1 0 H) : MR G y R V L1 L txt1 txt H := ⟨0, h, fun _ => hv, by rw [sel_0, sel_0]; exact hm⟩
theorem MR.no {G : gG} {y : Nat} {R : Int32 → Prop} {V : Prop} {L1 L : List Nat} {txt1 txt : Nat → List Nat} {H : Heap} {t : Int32} (ht : t ≠ 0) (h : R t) (hm : MW G y L txt t H) : MR G y R V L1 L txt1 txt H := ⟨t, h, fun g => absurd g ht, by rw [sel_n ht, sel_n ht]; exact hm⟩
/-- the class's end as the law's method tells it -/
def CR (G : gG) (b : Nat) (R : Int32 → Prop) (V : Prop) (L1 L : List Nat) (txt1 txt : Nat → List Nat) (k : Int32) (H : Heap) : Prop := R k ∧ (k = 0 → V) ∧ XW G b (sel k L1 L) (sel k txt1 txt) H
theorem CR.ok {G : gG} {b : Nat} {R : Int32 → Prop} {V : Prop} {L1 L : List Nat} {txt1 txt : Nat → List Nat} {H : Heap} (h : R 0) (hv : V) (hm : XW G b L1 txt1 H) : CR G b R V L1 L txt1 txt 0 H := ⟨h, fun _ => hv, by rw [sel_0, sel_0]; exact hm⟩
theorem CR.no {G : gG} {b : Nat} {R : Int32 → Prop} {V : Prop} {L1 L : List Nat} {txt1 txt : Nat → List Nat} {H : Heap} {t : Int32} (ht : t ≠ 0) (h : R t) (hm : XW G b L txt H) : CR G b R V L1 L txt1 txt t H := ⟨h, fun g => absurd g ht, by rw [sel_n ht, sel_n ht]; exact hm⟩
theorem rs1_y {A : Prop} (a : A) : rs1 A 0 := Or.inl ⟨a, rfl⟩
theorem rs1_1 {A : Prop} (a : ¬ A) : rs1 A (nI 1) := Or.inr ⟨a, rfl⟩
theorem rs2_y {A B : Prop} (a : A) (b : B) : rs2 A B 0 := Or.inl ⟨a, b, rfl⟩
theorem rs2_1 {A B : Prop} (a : ¬ A) : rs2 A B (nI 1) := Or.inr (Or.inl ⟨a, rfl⟩)
theorem rs2_2 {A B : Prop} (a : A) (b : ¬ B) : rs2 A B (nI 2) := Or.inr (Or.inr ⟨a, b, rfl⟩)
theorem rs3_y {A B C : Prop} (a : A) (b : B) (c : C) : rs3 A B C 0 := Or.inl ⟨a, b, c, rfl⟩
theorem rs3_1 {A B C : Prop} (a : ¬ A) : rs3 A B C (nI 1) := Or.inr (Or.inl ⟨a, rfl⟩)
theorem rs3_2 {A B C : Prop} (a : A) (b : ¬ B) : rs3 A B C (nI 2) := Or.inr (Or.inr (Or.inl ⟨a, b, rfl⟩))
theorem rs3_3 {A B C : Prop} (a : A) (b : B) (c : ¬ C) : rs3 A B C (nI 3) := Or.inr (Or.inr (Or.inr ⟨a, b, c, rfl⟩))
theorem rsT_y {A B C : Prop} (a : A) (b : B) (c : C) : rsT A B C 0 := Or.inl ⟨a, b, c, rfl⟩
theorem rsT_1 {A B C : Prop} (a : ¬ A) : rsT A B C (nI 1) := Or.inr (Or.inl ⟨a, rfl⟩)
theorem rsT_2 {A B C : Prop} (a : A) (b : ¬ B) : rsT A B C (nI 2) := Or.inr (Or.inr (Or.inl ⟨a, b, rfl⟩))
theorem rsT_3 {A B C : Prop} (a : A) (b : B) (c : ¬ C) : rsT A B C (nI 1) := Or.inr (Or.inr (Or.inr ⟨a, b, c, rfl⟩))
theorem n10 : nI 1 ≠ 0 := by decide
theorem n20 : nI 2 ≠ 0 := by decide
theorem n30 : nI 3 ≠ 0 := by decide
theorem inB_okS {x : Int32} {n : Nat} (hn : n < 2147483647) : inB x (nI 0) (nI n - nI 1) = true ↔ okN n x := by
  cases n with
  | zero =>
    constructor
    · intro h
      have h2 := inB_iff.mp h
      have h1 := Int32.le_iff_toInt_le.mp h2.1
      have h3 := Int32.le_iff_toInt_le.mp h2.2
      have e1 : (nI 0).toInt = 0 := by decide
      have e2 : (nI 0 - nI 1).toInt = -1 := by decide
      rw [e1] at h1
      rw [e2] at h3
      omega
    · rintro ⟨i, hi, -⟩
      exact absurd hi (Nat.not_lt_zero _)
  | succ k =>
    rw [pk_sub (by omega), Nat.add_sub_cancel]
    exact inB_okN (by omega)
theorem TA.nil {G : gG} {a : Nat} {L : List Nat} {H : Heap} (h : TA G a L H) : TA G a [] H := by
  obtain ⟨f, h1, -, -, -⟩ := h
  exact ⟨f, h1, fun i hi => absurd hi (Nat.not_lt_zero _), by decide, fun c hc => absurd hc List.not_mem_nil⟩
/-- what was looked at, whatever it is -/
def LE (G : gG) (y : Nat) (H : Heap) : Prop := ∃ w : Wt, LA G y w H
theorem LE.fr {G : gG} {y lo hi : Nat} {H H1 : Heap} (h : LE G y H) (f : gF lo hi H H1) (hd : y + 34 ≤ lo ∨ hi ≤ y + 12) : LE G y H1 := by
  obtain ⟨w, h⟩ := h
  exact ⟨w, h.fr f hd⟩
theorem MT.WE {G : gG} {y T : Nat} {L : List Nat} {txt : Nat → List Nat} {tad : Nat → Nat} {th : Int32} {H : Heap} (h : MT G y T L txt tad th H) (hLE : LE G y H) : MW G y L txt th H := by
  obtain ⟨w, hLA⟩ := hLE
  exact h.W hLA
theorem inB_two {x z : Int32} {n : Nat} (hn : n < 2147483647) (h : inB x (nI 0) (nI n) = false ∨ inB z (nI 0) (nI n) = false) : ¬ (okN (n + 1) x ∧ okN (n + 1) z) := by
  intro g
  rcases h with h | h
  · exact inB_no h (inB_okN hn) g.1
  · exact inB_no h (inB_okN hn) g.2
