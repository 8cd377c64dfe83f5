/-! ===== the theorem's parts: the order as numbers of the texts ===== -/
def tr (u v w : Int32) : Prop := (u = 0 → w = v) ∧ (v = 0 → w = u) ∧ (u < 0 → v < 0 → w < 0) ∧ (0 < u → 0 < v → 0 < w)
def lx (a b : Int32) : Int32 := if a = 0 then b else a
theorem tr_l {u c : Int32} (hc : c ≠ 0) : tr u c c := ⟨fun _ => rfl, fun g => absurd g hc, fun _ g => g, fun _ g => g⟩
theorem tr_r {v c : Int32} (hc : c ≠ 0) : tr c v c := ⟨fun g => absurd g hc, fun _ => rfl, fun g _ => g, fun g _ => g⟩
theorem lt_ne {w : Int32} (h : w < 0) : w ≠ 0 := fun e => by rw [e] at h; exact absurd h (by decide)
theorem gt_ne {w : Int32} (h : 0 < w) : w ≠ 0 := fun e => by rw [e] at h; exact absurd h (by decide)
theorem tr_lx {u v w u' v' w' : Int32} (h : tr u v w) (h2 : u = 0 → v = 0 → tr u' v' w') : tr (lx u u') (lx v v') (lx w w') := by
  unfold lx
  by_cases a : u = 0
  · by_cases b : v = 0
    · have hw : w = 0 := (h.1 a).trans b
      rw [if_pos a, if_pos b, if_pos hw]
      exact h2 a b
    · have hw : w = v := h.1 a
      rw [if_pos a, if_neg b, if_neg (by rw [hw]; exact b), hw]
      exact tr_l b
  · by_cases b : v = 0
    · have hw : w = u := h.2.1 b
      rw [if_neg a, if_pos b, if_neg (by rw [hw]; exact a), hw]
      exact tr_r a
    · rw [if_neg a, if_neg b]
      refine ⟨fun g => absurd g a, fun g => absurd g b, fun g1 g2 => ?_, fun g1 g2 => ?_⟩
      · have g := h.2.2.1 g1 g2
        rw [if_neg (lt_ne g)]
        exact g
      · have g := h.2.2.2 g1 g2
        rw [if_neg (gt_ne g)]
        exact g
theorem tr_fz {f g h : Nat → Int32} {n : Nat} (H : ∀ j, j < n → tr (f j) (g j) (h j)) : tr (fz f n) (fz g n) (fz h n) := by
  induction n with
  | zero => exact (by unfold tr; decide : tr 0 0 0)
  | succ n ih => exact tr_lx (ih (fun j hj => H j (by omega))) (fun _ _ => H n (by omega))
theorem fz_more {f : Nat → Int32} {n : Nat} : ∀ N, n ≤ N → (∀ j, n ≤ j → j < N → f j = 0) → fz f N = fz f n := by
  intro N
  induction N with
  | zero => intro h _; rw [show n = 0 by omega]
  | succ N ih =>
    intro h hz
    by_cases e : n = N + 1
    · rw [e]
    · have h1 := ih (by omega) (fun j h1 h2 => hz j h1 (by omega))
      show (if fz f N = 0 then f N else fz f N) = fz f n
      rw [h1, hz N (by omega) (by omega)]
      split
      · rename_i q; exact q.symm
      · rfl
theorem fz_keep {f : Nat → Int32} {n : Nat} (h0 : fz f n ≠ 0) : ∀ N, n ≤ N → fz f N = fz f n := by
  intro N
  induction N with
  | zero => intro h; rw [show n = 0 by omega]
  | succ N ih =>
    intro h
    by_cases e : n = N + 1
    · rw [e]
    · have h1 := ih (by omega)
      show (if fz f N = 0 then f N else fz f N) = fz f n
      rw [h1, if_neg h0]
theorem fz_all {f : Nat → Int32} {n : Nat} (h : fz f n = 0) : ∀ j, j < n → f j = 0 := by
  induction n with
  | zero => intro j hj; exact absurd hj (Nat.not_lt_zero _)
  | succ n ih =>
    have h : (if fz f n = 0 then f n else fz f n) = 0 := h
    by_cases c : fz f n = 0
    · rw [if_pos c] at h
      intro j hj
      by_cases e : j = n
      · rw [e]; exact h
      · exact ih c j (by omega)
    · rw [if_neg c] at h; exact absurd h c
theorem fz_congr {f g : Nat → Int32} {n : Nat} (h : ∀ j, j < n → f j = g j) : fz f n = fz g n := by
  induction n with
  | zero => rfl
  | succ n ih =>
    show (if fz f n = 0 then f n else fz f n) = (if fz g n = 0 then g n else fz g n)
    rw [ih (fun j hj => h j (by omega)), h n (by omega)]
theorem i_neg0 {a : Int32} : -a = 0 ↔ a = 0 := by
  constructor
  · intro h
    have := congrArg (fun w : Int32 => - w) h
    simpa using this
  · intro h; rw [h]; rfl
theorem fz_neg {f g : Nat → Int32} {n : Nat} (h : ∀ j, j < n → f j = - g j) : fz f n = - fz g n := by
  induction n with
  | zero => exact (by decide : (0 : Int32) = -0)
  | succ n ih =>
    have ih := ih (fun j hj => h j (by omega))
    show (if fz f n = 0 then f n else fz f n) = - (if fz g n = 0 then g n else fz g n)
    rw [ih, h n (by omega)]
    by_cases c : fz g n = 0
    · rw [if_pos (i_neg0.mpr c), if_pos c]
    · rw [if_neg (fun q => c (i_neg0.mp q)), if_neg c]
theorem oI_c (x y : Int32) : (x = y ∧ oI x y = 0) ∨ (x < y ∧ oI x y = -1) ∨ (y < x ∧ oI x y = 1) := by
  unfold oI
  by_cases h : x = y
  · exact Or.inl ⟨h, if_pos h⟩
  · by_cases h2 : x < y
    · exact Or.inr (Or.inl ⟨h2, by rw [if_neg h, if_pos h2]⟩)
    · refine Or.inr (Or.inr ⟨?_, by rw [if_neg h, if_neg h2]⟩)
      rw [Int32.lt_iff_toInt_lt] at h2 ⊢
      have : x.toInt ≠ y.toInt := fun q => h (Int32.toInt_inj.mp q)
      omega
theorem oI_self (x : Int32) : oI x x = 0 := if_pos rfl
theorem tr_oI (x y z : Int32) : tr (oI x y) (oI y z) (oI x z) := by
  rcases oI_c x y with ⟨h1, e1⟩ | ⟨h1, e1⟩ | ⟨h1, e1⟩ <;> rcases oI_c y z with ⟨h2, e2⟩ | ⟨h2, e2⟩ | ⟨h2, e2⟩ <;> rcases oI_c x z with ⟨h3, e3⟩ | ⟨h3, e3⟩ | ⟨h3, e3⟩ <;> rw [e1, e2, e3] <;> first
    | (unfold tr; decide)
    | (exfalso; simp only [Int32.lt_iff_toInt_lt, ← Int32.toInt_inj] at h1 h2 h3; omega)
theorem oI_anti (x y : Int32) : oI x y = - oI y x := by
  rcases oI_c x y with ⟨h1, e1⟩ | ⟨h1, e1⟩ | ⟨h1, e1⟩ <;> rcases oI_c y x with ⟨h2, e2⟩ | ⟨h2, e2⟩ | ⟨h2, e2⟩ <;> rw [e1, e2] <;> first
    | decide
    | (exfalso; simp only [Int32.lt_iff_toInt_lt, ← Int32.toInt_inj] at h1 h2; omega)
/-- a sign of a word, -1 behind its end -/
def pd (L : List Nat) (s n j : Nat) : Int32 := if j < n then nI (cg L (s + j)) else -1
theorem cg_any {L : List Nat} (h : ∀ c ∈ L, c < 65536) (j : Nat) : cg L j < 65536 := by
  by_cases c : j < L.length
  · exact h _ (cg_mem c)
  · unfold cg
    simp [List.getD, List.getElem?_eq_none (show L.length ≤ j by omega)]
theorem m1_lt {x : Nat} (h : x < 65536) : (-1 : Int32) < nI x := by
  rw [Int32.lt_iff_toInt_lt, nI_toInt (by omega)]
  have : (-1 : Int32).toInt = -1 := by decide
  rw [this]
  omega
theorem oI_lt {x y : Int32} (h : x < y) : oI x y = -1 := by
  unfold oI
  rw [if_neg (fun e => by rw [e] at h; exact Int32.lt_irrefl h), if_pos h]
theorem oI_gt {x y : Int32} (h : y < x) : oI x y = 1 := by
  rw [oI_anti, oI_lt h]
  rfl
theorem ow_pd {L M : List Nat} (hL : ∀ c ∈ L, c < 65536) (hM : ∀ c ∈ M, c < 65536) {s n t k N : Nat} (hn : n ≤ N) (hk : k ≤ N) (hN : N < 2147483648) : ow L M s n t k = fz (fun j => oI (pd L s n j) (pd M t k j)) N := by
  have hin : ∀ j, j < min n k → oI (pd L s n j) (pd M t k j) = oI (nI (cg L (s + j))) (nI (cg M (t + j))) := fun j hj => by
    unfold pd
    rw [if_pos (by omega), if_pos (by omega)]
  have hX : fz (fun j => oI (pd L s n j) (pd M t k j)) (min n k) = fz (fun j => oI (nI (cg L (s + j))) (nI (cg M (t + j)))) (min n k) := fz_congr hin
  unfold ow
  rw [← hX]
  by_cases h0 : fz (fun j => oI (pd L s n j) (pd M t k j)) (min n k) = 0
  · rw [if_pos h0]
    have hz := fz_all h0
    rcases Nat.lt_trichotomy n k with c | c | c
    · have e : oI (pd L s n n) (pd M t k n) = -1 := by
        unfold pd
        rw [if_neg (Nat.lt_irrefl n), if_pos c]
        exact oI_lt (m1_lt (cg_any hM _))
      rw [fz_hit (i := n) (fun j hj => hz j (by omega)) (by rw [e]; decide) (by omega), e]
      exact oI_lt (nI_lt c (by omega))
    · subst c
      rw [oI_self, fz_none (fun j hj => ?_)]
      by_cases g : j < n
      · exact hz j (by omega)
      · unfold pd
        rw [if_neg g, if_neg g]
        exact oI_self _
    · have e : oI (pd L s n k) (pd M t k k) = 1 := by
        unfold pd
        rw [if_neg (Nat.lt_irrefl k), if_pos c]
        exact oI_gt (m1_lt (cg_any hL _))
      rw [fz_hit (i := k) (fun j hj => hz j (by omega)) (by rw [e]; decide) (by omega), e]
      exact oI_gt (nI_lt c (by omega))
  · rw [if_neg h0, fz_keep h0 N (by omega)]
theorem ow_anti {L M : List Nat} {s n t k : Nat} : ow L M s n t k = - ow M L t k s n := by
  unfold ow
  have e : fz (fun j => oI (nI (cg L (s + j))) (nI (cg M (t + j)))) (min n k) = - fz (fun j => oI (nI (cg M (t + j))) (nI (cg L (s + j)))) (min k n) := by
    rw [Nat.min_comm k n]
    exact fz_neg (fun j _ => oI_anti _ _)
  rw [e]
  by_cases c : fz (fun j => oI (nI (cg M (t + j))) (nI (cg L (s + j)))) (min k n) = 0
  · rw [if_pos (i_neg0.mpr c), if_pos c]
    exact oI_anti _ _
  · rw [if_neg (fun q => c (i_neg0.mp q)), if_neg c]
theorem ow_self {L : List Nat} {s n : Nat} : ow L L s n s n = 0 := by
  unfold ow
  rw [fz_none (fun j _ => oI_self _), if_pos rfl, oI_self]
theorem td_ww {L M : List Nat} {T S : Tk} {r i : Nat} (a : tsz L T r i < 0) (b : tsz M S r i < 0) : tcmp L T M S r i = ow L M (tg (T r) i).1 ((tg (T r) i).2 - (tg (T r) i).1) (tg (S r) i).1 ((tg (S r) i).2 - (tg (S r) i).1) := if_pos ⟨a, b⟩
theorem td_wm {L M : List Nat} {T S : Tk} {r i : Nat} (a : tsz L T r i < 0) (b : ¬ tsz M S r i < 0) : tcmp L T M S r i = 1 := (if_neg (fun g => b g.2)).trans (if_pos a)
theorem td_mw {L M : List Nat} {T S : Tk} {r i : Nat} (a : ¬ tsz L T r i < 0) (b : tsz M S r i < 0) : tcmp L T M S r i = -1 := (if_neg (fun g => a g.1)).trans ((if_neg a).trans (if_pos b))
theorem td_mm {L M : List Nat} {T S : Tk} {r i : Nat} (a : ¬ tsz L T r i < 0) (b : ¬ tsz M S r i < 0) : tcmp L T M S r i = oI (tsz L T r i) (tsz M S r i) := (if_neg (fun g => a g.1)).trans ((if_neg a).trans (if_neg b))
theorem tc_out {L M : List Nat} {T S : Tk} {r i : Nat} (h1 : ¬ i < (T r).length) (h2 : ¬ i < (S r).length) : tcmp L T M S r i = 0 := by
  rw [td_mm (by rw [tsz_out h1]; decide) (by rw [tsz_out h2]; decide), tsz_out h1, tsz_out h2]
  exact oI_self _
theorem tc_anti {L M : List Nat} {T S : Tk} {r i : Nat} : tcmp L T M S r i = - tcmp M S L T r i := by
  by_cases a : tsz L T r i < 0 <;> by_cases b : tsz M S r i < 0
  · rw [td_ww a b, td_ww b a]; exact ow_anti
  · rw [td_wm a b, td_mw b a]; rfl
  · rw [td_mw a b, td_wm b a]
  · rw [td_mm a b, td_mm b a]; exact oI_anti _ _
theorem tc_self {L : List Nat} {T : Tk} {r i : Nat} : tcmp L T L T r i = 0 := by
  by_cases a : tsz L T r i < 0
  · rw [td_ww a a]; exact ow_self
  · rw [td_mm a a]; exact oI_self _
theorem tg_60 {L : List Nat} (hL : Gt L) {r i : Nat} (hr : r < 3) (h : tsz L (tk L) r i < 0) : (tg (tk L r) i).2 - (tg (tk L r) i).1 ≤ 60 := by
  have hi := (tsz_neg hL.J hr h).1
  have h1 := hL.J.lt hr hi
  have := hL.le
  omega
theorem tc_tr {L M K : List Nat} (hL : Gt L) (hM : Gt M) (hK : Gt K) {r i : Nat} (hr : r < 3) : tr (tcmp L (tk L) M (tk M) r i) (tcmp M (tk M) K (tk K) r i) (tcmp L (tk L) K (tk K) r i) := by
  by_cases a : tsz L (tk L) r i < 0 <;> by_cases b : tsz M (tk M) r i < 0 <;> by_cases c : tsz K (tk K) r i < 0
  · rw [td_ww a b, td_ww b c, td_ww a c]
    have h1 := tg_60 hL hr a
    have h2 := tg_60 hM hr b
    have h3 := tg_60 hK hr c
    have cL := hL.2.2.2.2.2
    have cM := hM.2.2.2.2.2
    have cK := hK.2.2.2.2.2
    rw [ow_pd cL cM (N := 60) h1 h2 (by decide), ow_pd cM cK (N := 60) h2 h3 (by decide), ow_pd cL cK (N := 60) h1 h3 (by decide)]
    exact tr_fz (fun j _ => tr_oI _ _ _)
  · rw [td_ww a b, td_wm b c, td_wm a c]; exact tr_l (c := 1) (by decide)
  · rw [td_wm a b, td_mw b c]; exact ⟨fun g => absurd g (by decide), fun g => absurd g (by decide), fun g => absurd g (by decide), fun _ g => absurd g (by decide)⟩
  · rw [td_wm a b, td_wm a c]; exact tr_r (c := 1) (by decide)
  · rw [td_mw a b, td_mw a c]; exact tr_r (c := -1) (by decide)
  · rw [td_mw a b, td_wm b c]; exact ⟨fun g => absurd g (by decide), fun g => absurd g (by decide), fun _ g => absurd g (by decide), fun g => absurd g (by decide)⟩
  · rw [td_mw b c, td_mw a c]; exact tr_l (c := -1) (by decide)
  · rw [td_mm a b, td_mm b c, td_mm a c]; exact tr_oI _ _ _
def em (T : Tk) : Int32 := if 0 < (T 1).length then 0 else 1
def rf (T S : Tk) (r : Nat) : Int32 := if r = 1 then oI (em T) (em S) else 0
theorem rc_lx {L M : List Nat} {T S : Tk} {r N : Nat} (h1 : (T r).length ≤ N) (h2 : (S r).length ≤ N) : rcmp L T M S r = lx (rf T S r) (fz (fun i => tcmp L T M S r i) N) := by
  have hm : fz (fun i => tcmp L T M S r i) N = fz (fun i => tcmp L T M S r i) (max (T r).length (S r).length) := fz_more N (by omega) (fun j g1 g2 => tc_out (by omega) (by omega))
  rw [hm]
  unfold rcmp lx rf
  by_cases e : r = 1
  · rw [if_pos e]
    unfold em
    by_cases a : 0 < (T 1).length <;> by_cases b : 0 < (S 1).length
    · rw [if_neg (fun g => g.2 (by rw [decide_eq_true a, decide_eq_true b])), if_pos a, if_pos b, oI_self, if_pos rfl]
    · rw [if_pos ⟨e, by rw [decide_eq_true a, decide_eq_false b]; decide⟩, if_pos a, if_pos a, if_neg b]
      rfl
    · rw [if_pos ⟨e, by rw [decide_eq_false a, decide_eq_true b]; decide⟩, if_neg a, if_neg a, if_pos b]
      rfl
    · rw [if_neg (fun g => g.2 (by rw [decide_eq_false a, decide_eq_false b])), if_neg a, if_neg b, oI_self, if_pos rfl]
  · rw [if_neg (fun g => e g.1), if_neg e, if_pos rfl]
theorem rc_tr {L M K : List Nat} (hL : Gt L) (hM : Gt M) (hK : Gt K) {r : Nat} (hr : r < 3) : tr (rcmp L (tk L) M (tk M) r) (rcmp M (tk M) K (tk K) r) (rcmp L (tk L) K (tk K) r) := by
  have hb : ∃ N, (tk L r).length ≤ N ∧ (tk M r).length ≤ N ∧ (tk K r).length ≤ N := ⟨(tk L r).length + (tk M r).length + (tk K r).length, by omega, by omega, by omega⟩
  obtain ⟨N, h1, h2, h3⟩ := hb
  rw [rc_lx h1 h2, rc_lx h2 h3, rc_lx h1 h3]
  refine tr_lx ?_ (fun _ _ => tr_fz (fun j _ => tc_tr hL hM hK hr))
  unfold rf
  by_cases e : r = 1
  · rw [if_pos e, if_pos e, if_pos e]; exact tr_oI _ _ _
  · rw [if_neg e, if_neg e, if_neg e]; unfold tr; decide
theorem ordr_tr {L M K : List Nat} (hL : Gt L) (hM : Gt M) (hK : Gt K) : tr (ordr L M) (ordr M K) (ordr L K) := tr_fz (fun _ hr => rc_tr hL hM hK hr)
theorem ordr_self {L : List Nat} (hL : Gt L) : ordr L L = 0 := by
  refine fz_none (fun r hr => ?_)
  rw [rc_lx (N := (tk L r).length) (Nat.le_refl _) (Nat.le_refl _), fz_none (fun _ _ => tc_self)]
  unfold lx rf
  by_cases e : r = 1
  · rw [if_pos e, oI_self, if_pos rfl]
  · rw [if_neg e, if_pos rfl]
theorem ordr_anti {L P : List Nat} (hL : Gt L) (hP : Gt P) : ordr L P = - ordr P L := by
  refine fz_neg (fun r _ => ?_)
  obtain ⟨N, h1, h2⟩ : ∃ N, (tk L r).length ≤ N ∧ (tk P r).length ≤ N := ⟨(tk L r).length + (tk P r).length, by omega, by omega⟩
  rw [rc_lx h1 h2, rc_lx h2 h1, fz_neg (g := fun i => tcmp P (tk P) L (tk L) r i) (fun j _ => tc_anti)]
  have e : rf (tk L) (tk P) r = - rf (tk P) (tk L) r := by
    unfold rf
    by_cases e : r = 1
    · rw [if_pos e, if_pos e]; exact oI_anti _ _
    · rw [if_neg e, if_neg e]; rfl
  unfold lx
  rw [e]
  by_cases c : rf (tk P) (tk L) r = 0
  · rw [if_pos (i_neg0.mpr c), if_pos c]
  · rw [if_neg (fun q => c (i_neg0.mp q)), if_neg c]
/-- what is looked at of three orders -/
def tri (x y z : Int32) : Bool := if x = 0 then decide (z = y) else decide (0 < x) || decide (0 ≤ y) || decide (z < 0)
theorem ordr_tri {L P K : List Nat} (hL : Gt L) (hP : Gt P) (hK : Gt K) : tri (ordr L P) (ordr P K) (ordr L K) = true := by
  have h := ordr_tr hL hP hK
  unfold tri
  by_cases a : ordr L P = 0
  · rw [if_pos a]; exact decide_eq_true (h.1 a)
  · rw [if_neg a]
    by_cases b : 0 < ordr L P
    · rw [decide_eq_true b]; rfl
    · by_cases c : 0 ≤ ordr P K
      · rw [decide_eq_true c, Bool.or_true]; rfl
      · have ha : ordr L P < 0 := by
          rw [Int32.lt_iff_toInt_lt] at b ⊢
          have : (ordr L P).toInt ≠ (0 : Int32).toInt := fun q => a (Int32.toInt_inj.mp q)
          omega
        rw [decide_eq_true (h.2.2.1 ha (Int32.not_le.mp c)), Bool.or_true]
theorem tellr_iff {L P : List Nat} : ordr L P = 0 ↔ tellr L P = -1 := by
  unfold ordr tellr ordT tellT
  generalize rcmp L (tk L) P (tk P) = f
  show (if (if (if (0 : Int32) = 0 then f 0 else 0) = 0 then f 1 else (if (0 : Int32) = 0 then f 0 else 0)) = 0 then f 2 else (if (if (0 : Int32) = 0 then f 0 else 0) = 0 then f 1 else (if (0 : Int32) = 0 then f 0 else 0))) = 0 ↔ _
  rw [if_pos rfl]
  have e0 : ¬ nI 0 = -1 := by decide
  have e1 : ¬ nI 1 = -1 := by decide
  have e2 : ¬ nI 2 = -1 := by decide
  by_cases h0 : f 0 = 0
  · by_cases h1 : f 1 = 0
    · by_cases h2 : f 2 = 0
      · simp [h0, h1, h2]
      · simp [h0, h1, h2, e2]
    · simp [h0, h1, e1]
  · simp [h0, e0]
theorem tk_blk {L B : List Nat} {k how : Nat} (hw : how = 46 ∨ how = 45 ∨ how = 43) (hB : 0 < B.length) (hk0 : k ≠ 0) (hBk : ∀ c ∈ B, kd c = k) : tk (L ++ [how] ++ B) = addT (tk L) (rowB (pf L L.length).1 how) (L.length + 1, L.length + 1 + B.length) := by
  have hpre := pf_pre (A := L) (B := [how]) L.length (Nat.le_refl _)
  have hp : pf (L ++ [how]) (L ++ [how]).length = (rowB (pf L L.length).1 how, 0, (pf L L.length).2.2) := by
    rw [List.length_append, List.length_singleton]
    show pstep (L ++ [how]) L.length (pf (L ++ [how]) L.length) = _
    rw [hpre, pstep_joint (by rw [cg_new]; exact kd_joint hw), cg_new]
  have h := pf_blk (A := L ++ [how]) hB hk0 hBk (by rw [hp]; exact fun g => hk0 g.symm)
  unfold tk
  rw [h, hp, List.length_append, List.length_singleton]
theorem tsz_pre {L C : List Nat} (hL : Gt L) {r i : Nat} {T : Tk} (hr : r < 3) (hi : i < (tk L r).length) (hT : i < (T r).length) (he : tg (T r) i = tg (tk L r) i) : tsz (L ++ C) T r i = tsz L (tk L) r i := by
  have hb := hL.J.lt hr hi
  rw [tsz_in hT, tsz_in hi, he]
  unfold szI
  rw [cg_app (by omega), nv_pre _ (by omega)]
theorem tc_pre {L C : List Nat} (hL : Gt L) {r i : Nat} {T : Tk} (hr : r < 3) (hi : i < (tk L r).length) (hT : i < (T r).length) (he : tg (T r) i = tg (tk L r) i) : tcmp (L ++ C) T L (tk L) r i = 0 := by
  have hs := tsz_pre (C := C) hL hr hi hT he
  have hb := hL.J.lt hr hi
  by_cases a : tsz L (tk L) r i < 0
  · rw [td_ww (by rw [hs]; exact a) a, he]
    unfold ow
    rw [fz_none (fun j hj => by rw [cg_app (by omega)]; exact oI_self _), if_pos rfl, oI_self]
  · rw [td_mm (by rw [hs]; exact a) a, hs]
    exact oI_self _
theorem rc_same {L C : List Nat} (hL : Gt L) {r q : Nat} {x : Nat × Nat} (hr : r < 3) (hq : r ≠ q) (he : em (addT (tk L) q x) = em (tk L) ∨ r ≠ 1) : rcmp (L ++ C) (addT (tk L) q x) L (tk L) r = 0 := by
  have e : addT (tk L) q x r = tk L r := addT_ne hq
  rw [rc_lx (N := (tk L r).length) (by rw [e]; exact Nat.le_refl _) (Nat.le_refl _), fz_none (fun i hi => tc_pre hL hr hi (by rw [e]; exact hi) (by rw [e]))]
  unfold lx rf
  by_cases c : r = 1
  · rw [if_pos c, he.resolve_right (fun g => g c), oI_self, if_pos rfl]
  · rw [if_neg c, if_pos rfl]
/-- a number more, where the row stands -/
theorem rc_dot {L : List Nat} (hL : Gt L) {n q : Nat} (hn : n < 1000000000) (hq : q < 3) (hq1 : q = 1 → 0 < (tk L 1).length) : rcmp (L ++ ([46] ++ dg n)) (addT (tk L) q (L.length + 1, L.length + 1 + dgs n)) L (tk L) q = oI (nI n) (nI 0) := by
  have hl : (addT (tk L) q (L.length + 1, L.length + 1 + dgs n) q).length = (tk L q).length + 1 := by rw [addT_self, List.length_append, List.length_singleton]
  rw [rc_lx (N := (tk L q).length + 1) (by rw [hl]; exact Nat.le_refl _) (Nat.le_succ _)]
  have hf : rf (addT (tk L) q (L.length + 1, L.length + 1 + dgs n)) (tk L) q = 0 := by
    unfold rf em
    by_cases c : q = 1
    · subst c
      have h1 := hq1 rfl
      rw [if_pos rfl, if_pos (by rw [hl]; omega), if_pos h1, oI_self]
    · rw [if_neg c]
  rw [hf]
  unfold lx
  rw [if_pos rfl]
  show (if fz _ (tk L q).length = 0 then _ else _) = _
  rw [if_pos (fz_none (fun i hi => tc_pre hL hq hi (by rw [hl]; omega) (by rw [addT_self, tg_app hi])))]
  have hv : tsz (L ++ ([46] ++ dg n)) (addT (tk L) q (L.length + 1, L.length + 1 + dgs n)) q (tk L q).length = nI n := by
    rw [tsz_in (by rw [hl]; exact Nat.lt_succ_self _), addT_self, tg_new]
    have hc : kd (cg (L ++ ([46] ++ dg n)) (L.length + 1)) = 1 := by
      rw [← List.append_assoc]
      have h := cg_app2 (L := L ++ [46]) (M := dg n) (i := 0)
      rw [Nat.add_zero, List.length_append, List.length_singleton] at h
      rw [h]
      have hm := dg_lt n _ (cg_mem (L := dg n) (i := 0) (dgs_pos n))
      exact kd_digit hm.1 hm.2
    unfold szI
    rw [if_pos hc]
    show nI (nv (L ++ ([46] ++ dg n)) (L.length + 1) (L.length + 1 + dgs n - (L.length + 1))) = nI n
    rw [Nat.add_sub_cancel_left, ← List.append_assoc]
    have h := nv_dg n (L ++ [46])
    rw [List.length_append, List.length_singleton] at h
    rw [h]
  have ho : tsz L (tk L) q (tk L q).length = nI 0 := tsz_out (Nat.lt_irrefl _)
  show tcmp (L ++ ([46] ++ dg n)) (addT (tk L) q (L.length + 1, L.length + 1 + dgs n)) L (tk L) q (tk L q).length = oI (nI n) (nI 0)
  rw [td_mm (by rw [hv]; exact nI_pos (by omega)) (by rw [ho]; decide), hv, ho]
theorem em_add {T : Tk} {q : Nat} {x : Nat × Nat} (h : q = 1 → 0 < (T 1).length) : em (addT T q x) = em T := by
  unfold em
  by_cases c : q = 1
  · subst c
    have h1 := h rfl
    rw [if_pos (by rw [addT_self, List.length_append]; omega), if_pos h1]
  · rw [addT_ne (fun g => c g.symm)]
theorem ordr_dot {L : List Nat} (hL : Gt L) {n : Nat} (hn : n < 1000000000) : ordr (L ++ [46] ++ dg n) L = oI (nI n) (nI 0) := by
  have hB : 0 < (dg n).length := dgs_pos n
  have ht := tk_blk (L := L) (B := dg n) (k := 1) (how := 46) (Or.inl rfl) hB (by decide) (fun c hc => kd_digit (dg_lt n c hc).1 (dg_lt n c hc).2)
  have hr : (pf L L.length).1 < 3 := (pf_inv L L.length).1
  have hrow : rowB (pf L L.length).1 46 = (pf L L.length).1 := rowB_3 (Or.inr (by decide)) (Or.inr (by decide))
  rw [hrow] at ht
  generalize hq : (pf L L.length).1 = q at ht hr
  have hq1 : q = 1 → 0 < (tk L 1).length := fun e => hL.2.2.1 (by rw [hq, e]; decide)
  have hs : ∀ r, r < 3 → r ≠ q → rcmp (L ++ [46] ++ dg n) (tk (L ++ [46] ++ dg n)) L (tk L) r = 0 := fun r h3 hne => by
    rw [ht, List.append_assoc]
    exact rc_same hL h3 hne (Or.inl (em_add hq1))
  have hd : rcmp (L ++ [46] ++ dg n) (tk (L ++ [46] ++ dg n)) L (tk L) q = oI (nI n) (nI 0) := by
    rw [ht, List.append_assoc]
    exact rc_dot hL hn hr hq1
  show fz (fun r => rcmp (L ++ [46] ++ dg n) (tk (L ++ [46] ++ dg n)) L (tk L) r) 3 = _
  by_cases c : oI (nI n) (nI 0) = 0
  · rw [c]
    refine fz_none (fun r h3 => ?_)
    by_cases e : r = q
    · rw [e, hd, c]
    · exact hs r h3 e
  · rw [fz_hit (i := q) (fun j hj => hs j (by omega) (by omega)) (by rw [hd]; exact c) hr, hd]
theorem ordr_zero {L : List Nat} (hL : Gt L) (h : L.length + 2 ≤ 60) : ordr (L ++ [46] ++ dg 0) L = 0 := by
  rw [ordr_dot hL (by decide)]
  exact oI_self _
theorem ordr_one {L : List Nat} (hL : Gt L) (h : L.length + 2 ≤ 60) : 0 < ordr (L ++ [46] ++ dg 1) L := by
  rw [ordr_dot hL (by decide)]
  decide
theorem ordr_let {L : List Nat} (hL : Gt L) (h : L.length + 2 ≤ 60) (h1 : ¬ 0 < (tk L 1).length) : ordr (L ++ [45] ++ [97]) L < 0 := by
  have ht := tk_blk (L := L) (B := [97]) (k := 2) (how := 45) (Or.inr (Or.inl rfl)) (by decide) (by decide) (fun c hc => by rw [List.mem_singleton.mp hc]; rfl)
  have h0 : (pf L L.length).1 = 0 := by
    have := hL.2.2.1
    by_cases c : 1 ≤ (pf L L.length).1
    · exact absurd (this c) h1
    · omega
  rw [h0, rowB_1 rfl] at ht
  have hz : rcmp (L ++ [45] ++ [97]) (tk (L ++ [45] ++ [97])) L (tk L) 0 = 0 := by
    rw [ht, List.append_assoc]
    exact rc_same hL (by decide) (by decide) (Or.inr (by decide))
  have ho : rcmp (L ++ [45] ++ [97]) (tk (L ++ [45] ++ [97])) L (tk L) 1 = -1 := by
    rw [ht]
    unfold rcmp
    have ha : 0 < (addT (tk L) 1 (L.length + 1, L.length + 1 + [97].length) 1).length := by rw [addT_self, List.length_append]; exact Nat.succ_pos _
    rw [if_pos ⟨rfl, by rw [decide_eq_true ha, decide_eq_false h1]; decide⟩, if_pos ha]
  show fz (fun r => rcmp (L ++ [45] ++ [97]) (tk (L ++ [45] ++ [97])) L (tk L) r) 3 < 0
  rw [fz_hit (i := 1) (fun j hj => by rw [show j = 0 by omega]; exact hz) (by rw [ho]; decide) (by decide), ho]
  decide
/-- the orders of each two, as they are kept -/
def XO (G : gG) (b : Nat) (txt : Nat → List Nat) (H : Heap) : Prop := ∃ f6 : Nat → Int32, gI G (b + 6) 1 64 f6 H ∧ ∀ a d, a < 8 → d < 8 → f6 (a * 8 + d) = ordr (txt a) (txt d)
theorem XO.fr {G : gG} {b lo hi : Nat} {txt : Nat → List Nat} {H H1 : Heap} (h : XO G b txt H) (f : gF lo hi H H1) (hd : b + 7 ≤ lo ∨ hi ≤ b + 6) : XO G b txt H1 := by
  obtain ⟨f6, h1, h2⟩ := h
  exact ⟨f6, h1.fr f (by omega), h2⟩
def VoE (G : gG) (v : Nat) (H : Heap) : Prop := ∃ P : List Nat, Vo G v P H
theorem VoE.fr {G : gG} {v lo hi : Nat} {H H1 : Heap} (h : VoE G v H) (f : gF lo hi H H1) (hd : v + 12 ≤ lo ∨ hi ≤ v) : VoE G v H1 := by
  obtain ⟨P, h⟩ := h
  exact ⟨P, h.fr f hd⟩
theorem XB.setO {G : gG} {b sp : Nat} {L : List Nat} {txt : Nat → List Nat} {sl : Nat → Nat} {H H1 : Heap} {f6 : Nat → Int32} (h : XB G b L txt sl sp H) (f : gF (b + 6) (b + 6 + 1) H H1) (hO : gI G (b + 6) 1 64 f6 H1) : XB G b L txt sl sp H1 := by
  obtain ⟨h1, h2, ⟨f3, h3, h3b⟩, ⟨f4, h4⟩, ⟨f5, h5⟩, ⟨f6', h6⟩, h7, h8, h9, h10⟩ := h
  exact ⟨h1.fr f (by omega), h2.fr f (by omega), ⟨f3, h3.fr f (by omega), h3b⟩, ⟨f4, h4.fr f (by omega)⟩, ⟨f5, h5.fr f (by omega)⟩, ⟨f6, hO⟩, fun i hi => (h7 i hi).fr f (by unfold vk; omega), h8, h9, h10⟩
theorem fo_1 {g : Nat → Int32} {F : Nat → Nat → Int32} {i j : Nat} {v : Int32} (h : ∀ a d, a < i → d < 8 → g (a * 8 + d) = F a d) (hj : j < 8) : ∀ a d, a < i → d < 8 → upd g (i * 8 + j) v (a * 8 + d) = F a d := by
  intro a d ha hd
  rw [← h a d ha hd]
  simp [upd, show a * 8 + d ≠ i * 8 + j by omega]
theorem fo_2 {g : Nat → Int32} {F : Nat → Nat → Int32} {i j : Nat} (h : ∀ d, d < j → g (i * 8 + d) = F i d) : ∀ d, d < j + 1 → upd g (i * 8 + j) (F i j) (i * 8 + d) = F i d := by
  intro d hd
  by_cases e : d = j
  · subst e; simp [upd]
  · rw [← h d (by omega)]
    exact pk_un (by omega)
theorem fo_3 {g : Nat → Int32} {F : Nat → Nat → Int32} {i : Nat} (h : ∀ a d, a < i → d < 8 → g (a * 8 + d) = F a d) (h2 : ∀ d, d < 8 → g (i * 8 + d) = F i d) : ∀ a d, a < i + 1 → d < 8 → g (a * 8 + d) = F a d := by
  intro a d ha hd
  by_cases e : a = i
  · subst e; exact h2 d hd
  · exact h a d (by omega) hd
